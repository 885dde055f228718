/-! names, words, shapes (written by program) -/
def y_Pan_init : MethodName := ⟨"BrinePans$Pans", "<init>", "(LBrinePans$Ground;)V"⟩
def y_Act_init : MethodName := ⟨"BrinePans$Acts", "<init>", "(LBrinePans$Ground;)V"⟩
def y_Act_clear : MethodName := ⟨"BrinePans$Acts", "clear", "()V"⟩
abbrev rm_Act_clear : Room := { frames := 0, cells := 0, slots := 0, locals := 0 }
theorem mw_Act_clear : MW y_Act_clear prog_2_method_2_code 1 none 0 := ⟨gw_t 237 (by decide +kernel) (by decide +kernel), gw_t 5 (by decide +kernel) (by decide +kernel), (by decide +kernel)⟩
theorem mv_Act_clear : MV y_Act_clear := ⟨gw_t 236 (by decide +kernel) (by decide +kernel), gw_s 11 (by decide +kernel) (by decide +kernel)⟩
def y_Mth_min : MethodName := ⟨"java/lang/Math", "min", "(II)I"⟩
def y_Pan_copy : MethodName := ⟨"BrinePans$Pans", "copy", "(LBrinePans$Pans;)V"⟩
abbrev rm_Pan_copy : Room := { frames := 0, cells := 0, slots := 0, locals := 0 }
theorem mw_Pan_copy : MW y_Pan_copy prog_5_method_4_code 3 none 1 := ⟨gw_t 296 (by decide +kernel) (by decide +kernel), gw_t 4 (by decide +kernel) (by decide +kernel), (by decide +kernel)⟩
theorem mv_Pan_copy : MV y_Pan_copy := ⟨gw_t 295 (by decide +kernel) (by decide +kernel), gw_s 22 (by decide +kernel) (by decide +kernel)⟩
def y_Act_add : MethodName := ⟨"BrinePans$Acts", "add", "(LBrinePans$Pans;)V"⟩
abbrev rm_Act_add : Room := { frames := 1, cells := 0, slots := 0, locals := 22 }
theorem mw_Act_add : MW y_Act_add prog_2_method_3_code 2 none 1 := ⟨gw_t 350 (by decide +kernel) (by decide +kernel), gw_t 5 (by decide +kernel) (by decide +kernel), (by decide +kernel)⟩
theorem mv_Act_add : MV y_Act_add := ⟨gw_t 349 (by decide +kernel) (by decide +kernel), gw_s 33 (by decide +kernel) (by decide +kernel)⟩
def y_Act_takeBack : MethodName := ⟨"BrinePans$Acts", "takeBack", "(LBrinePans$Pans;)I"⟩
abbrev rm_Act_takeBack : Room := { frames := 1, cells := 0, slots := 0, locals := 22 }
theorem mw_Act_takeBack : MW y_Act_takeBack prog_2_method_4_code 2 (some .int) 1 := ⟨gw_t 393 (by decide +kernel) (by decide +kernel), gw_t 5 (by decide +kernel) (by decide +kernel), (by decide +kernel)⟩
theorem mv_Act_takeBack : MV y_Act_takeBack := ⟨gw_t 392 (by decide +kernel) (by decide +kernel), gw_s 38 (by decide +kernel) (by decide +kernel)⟩
def y_Fin_init : MethodName := ⟨"BrinePans$Finds", "<init>", "()V"⟩
def y_Fin_add : MethodName := ⟨"BrinePans$Finds", "add", "(III)I"⟩
abbrev rm_Fin_add : Room := { frames := 0, cells := 0, slots := 0, locals := 0 }
theorem mw_Fin_add : MW y_Fin_add prog_3_method_2_code 4 (some .int) 3 := ⟨gw_t 475 (by decide +kernel) (by decide +kernel), gw_t 6 (by decide +kernel) (by decide +kernel), (by decide +kernel)⟩
theorem mv_Fin_add : MV y_Fin_add := ⟨gw_t 474 (by decide +kernel) (by decide +kernel), gw_s 42 (by decide +kernel) (by decide +kernel)⟩
def y_Fin_clear : MethodName := ⟨"BrinePans$Finds", "clear", "()I"⟩
abbrev rm_Fin_clear : Room := { frames := 0, cells := 0, slots := 0, locals := 0 }
theorem mw_Fin_clear : MW y_Fin_clear prog_3_method_3_code 2 (some .int) 0 := ⟨gw_t 483 (by decide +kernel) (by decide +kernel), gw_t 6 (by decide +kernel) (by decide +kernel), (by decide +kernel)⟩
theorem mv_Fin_clear : MV y_Fin_clear := ⟨gw_t 482 (by decide +kernel) (by decide +kernel), gw_s 43 (by decide +kernel) (by decide +kernel)⟩
def y_Fin_allow : MethodName := ⟨"BrinePans$Finds", "allow", "(I)Z"⟩
abbrev rm_Fin_allow : Room := { frames := 1, cells := 0, slots := 0, locals := 21 }
theorem mw_Fin_allow : MW y_Fin_allow prog_3_method_4_code 4 (some .boolean) 1 := ⟨gw_t 491 (by decide +kernel) (by decide +kernel), gw_t 6 (by decide +kernel) (by decide +kernel), (by decide +kernel)⟩
theorem mv_Fin_allow : MV y_Fin_allow := ⟨gw_t 490 (by decide +kernel) (by decide +kernel), gw_s 44 (by decide +kernel) (by decide +kernel)⟩
def y_Gro_init : MethodName := ⟨"BrinePans$Ground", "<init>", "()V"⟩
def y_Gro_clear : MethodName := ⟨"BrinePans$Ground", "clear", "()V"⟩
abbrev rm_Gro_clear : Room := { frames := 0, cells := 0, slots := 0, locals := 0 }
theorem mw_Gro_clear : MW y_Gro_clear prog_4_method_2_code 1 none 0 := ⟨gw_t 209 (by decide +kernel) (by decide +kernel), gw_t 3 (by decide +kernel) (by decide +kernel), (by decide +kernel)⟩
theorem mv_Gro_clear : MV y_Gro_clear := ⟨gw_t 208 (by decide +kernel) (by decide +kernel), gw_s 4 (by decide +kernel) (by decide +kernel)⟩
def y_Gro_addPan : MethodName := ⟨"BrinePans$Ground", "addPan", "(I)V"⟩
abbrev rm_Gro_addPan : Room := { frames := 0, cells := 0, slots := 0, locals := 0 }
theorem mw_Gro_addPan : MW y_Gro_addPan prog_4_method_3_code 2 none 1 := ⟨gw_t 221 (by decide +kernel) (by decide +kernel), gw_t 3 (by decide +kernel) (by decide +kernel), (by decide +kernel)⟩
theorem mv_Gro_addPan : MV y_Gro_addPan := ⟨gw_t 220 (by decide +kernel) (by decide +kernel), gw_s 7 (by decide +kernel) (by decide +kernel)⟩
def y_Gro_addSky : MethodName := ⟨"BrinePans$Ground", "addSky", "(I)V"⟩
abbrev rm_Gro_addSky : Room := { frames := 0, cells := 0, slots := 0, locals := 0 }
theorem mw_Gro_addSky : MW y_Gro_addSky prog_4_method_4_code 2 none 1 := ⟨gw_t 233 (by decide +kernel) (by decide +kernel), gw_t 3 (by decide +kernel) (by decide +kernel), (by decide +kernel)⟩
theorem mv_Gro_addSky : MV y_Gro_addSky := ⟨gw_t 232 (by decide +kernel) (by decide +kernel), gw_s 10 (by decide +kernel) (by decide +kernel)⟩
def y_Gro_hasPan : MethodName := ⟨"BrinePans$Ground", "hasPan", "(I)Z"⟩
abbrev rm_Gro_hasPan : Room := { frames := 0, cells := 0, slots := 0, locals := 0 }
theorem mw_Gro_hasPan : MW y_Gro_hasPan prog_4_method_5_code 2 (some .boolean) 1 := ⟨gw_t 229 (by decide +kernel) (by decide +kernel), gw_t 3 (by decide +kernel) (by decide +kernel), (by decide +kernel)⟩
theorem mv_Gro_hasPan : MV y_Gro_hasPan := ⟨gw_t 228 (by decide +kernel) (by decide +kernel), gw_s 9 (by decide +kernel) (by decide +kernel)⟩
def y_Gro_gateCount : MethodName := ⟨"BrinePans$Ground", "gateCount", "()I"⟩
abbrev rm_Gro_gateCount : Room := { frames := 0, cells := 0, slots := 0, locals := 0 }
theorem mw_Gro_gateCount : MW y_Gro_gateCount prog_4_method_6_code 1 (some .int) 0 := ⟨gw_t 304 (by decide +kernel) (by decide +kernel), gw_t 3 (by decide +kernel) (by decide +kernel), (by decide +kernel)⟩
theorem mv_Gro_gateCount : MV y_Gro_gateCount := ⟨gw_t 303 (by decide +kernel) (by decide +kernel), gw_s 24 (by decide +kernel) (by decide +kernel)⟩
def y_Gro_hasGate : MethodName := ⟨"BrinePans$Ground", "hasGate", "(I)Z"⟩
abbrev rm_Gro_hasGate : Room := { frames := 1, cells := 0, slots := 0, locals := 20 }
theorem mw_Gro_hasGate : MW y_Gro_hasGate prog_4_method_7_code 2 (some .boolean) 1 := ⟨gw_t 316 (by decide +kernel) (by decide +kernel), gw_t 3 (by decide +kernel) (by decide +kernel), (by decide +kernel)⟩
theorem mv_Gro_hasGate : MV y_Gro_hasGate := ⟨gw_t 315 (by decide +kernel) (by decide +kernel), gw_s 27 (by decide +kernel) (by decide +kernel)⟩
def y_Gro_skyOf : MethodName := ⟨"BrinePans$Ground", "skyOf", "(I)I"⟩
abbrev rm_Gro_skyOf : Room := { frames := 0, cells := 0, slots := 0, locals := 0 }
theorem mw_Gro_skyOf : MW y_Gro_skyOf prog_4_method_8_code 2 (some .int) 1 := ⟨gw_t 245 (by decide +kernel) (by decide +kernel), gw_t 3 (by decide +kernel) (by decide +kernel), (by decide +kernel)⟩
theorem mv_Gro_skyOf : MV y_Gro_skyOf := ⟨gw_t 244 (by decide +kernel) (by decide +kernel), gw_s 12 (by decide +kernel) (by decide +kernel)⟩
def y_Gro_depthOf : MethodName := ⟨"BrinePans$Ground", "depthOf", "(I)I"⟩
abbrev rm_Gro_depthOf : Room := { frames := 0, cells := 0, slots := 0, locals := 0 }
theorem mw_Gro_depthOf : MW y_Gro_depthOf prog_4_method_9_code 2 (some .int) 1 := ⟨gw_t 284 (by decide +kernel) (by decide +kernel), gw_t 3 (by decide +kernel) (by decide +kernel), (by decide +kernel)⟩
theorem mv_Gro_depthOf : MV y_Gro_depthOf := ⟨gw_t 283 (by decide +kernel) (by decide +kernel), gw_s 20 (by decide +kernel) (by decide +kernel)⟩
def y_Pan_emptyAllBut : MethodName := ⟨"BrinePans$Pans", "emptyAllBut", "(I)V"⟩
abbrev rm_Pan_emptyAllBut : Room := { frames := 0, cells := 0, slots := 0, locals := 0 }
theorem mw_Pan_emptyAllBut : MW y_Pan_emptyAllBut prog_5_method_5_code 3 none 1 := ⟨gw_t 217 (by decide +kernel) (by decide +kernel), gw_t 4 (by decide +kernel) (by decide +kernel), (by decide +kernel)⟩
theorem mv_Pan_emptyAllBut : MV y_Pan_emptyAllBut := ⟨gw_t 216 (by decide +kernel) (by decide +kernel), gw_s 6 (by decide +kernel) (by decide +kernel)⟩
def y_Pan_clear : MethodName := ⟨"BrinePans$Pans", "clear", "()V"⟩
abbrev rm_Pan_clear : Room := { frames := 1, cells := 0, slots := 0, locals := 22 }
theorem mw_Pan_clear : MW y_Pan_clear prog_5_method_2_code 1 none 0 := ⟨gw_t 213 (by decide +kernel) (by decide +kernel), gw_t 4 (by decide +kernel) (by decide +kernel), (by decide +kernel)⟩
theorem mv_Pan_clear : MV y_Pan_clear := ⟨gw_t 212 (by decide +kernel) (by decide +kernel), gw_s 5 (by decide +kernel) (by decide +kernel)⟩
def y_Pan_lay : MethodName := ⟨"BrinePans$Pans", "lay", "([III)V"⟩
abbrev rm_Pan_lay : Room := { frames := 1, cells := 0, slots := 0, locals := 21 }
theorem mw_Pan_lay : MW y_Pan_lay prog_5_method_3_code 4 none 3 := ⟨gw_t 225 (by decide +kernel) (by decide +kernel), gw_t 4 (by decide +kernel) (by decide +kernel), (by decide +kernel)⟩
theorem mv_Pan_lay : MV y_Pan_lay := ⟨gw_t 224 (by decide +kernel) (by decide +kernel), gw_s 8 (by decide +kernel) (by decide +kernel)⟩
def y_Pan_brineOf : MethodName := ⟨"BrinePans$Pans", "brineOf", "(I)I"⟩
abbrev rm_Pan_brineOf : Room := { frames := 0, cells := 0, slots := 0, locals := 0 }
theorem mw_Pan_brineOf : MW y_Pan_brineOf prog_5_method_6_code 3 (some .int) 1 := ⟨gw_t 261 (by decide +kernel) (by decide +kernel), gw_t 4 (by decide +kernel) (by decide +kernel), (by decide +kernel)⟩
theorem mv_Pan_brineOf : MV y_Pan_brineOf := ⟨gw_t 260 (by decide +kernel) (by decide +kernel), gw_s 16 (by decide +kernel) (by decide +kernel)⟩
def y_Pan_crustOf : MethodName := ⟨"BrinePans$Pans", "crustOf", "(I)I"⟩
abbrev rm_Pan_crustOf : Room := { frames := 1, cells := 0, slots := 0, locals := 22 }
theorem mw_Pan_crustOf : MW y_Pan_crustOf prog_5_method_7_code 2 (some .int) 1 := ⟨gw_t 257 (by decide +kernel) (by decide +kernel), gw_t 4 (by decide +kernel) (by decide +kernel), (by decide +kernel)⟩
theorem mv_Pan_crustOf : MV y_Pan_crustOf := ⟨gw_t 256 (by decide +kernel) (by decide +kernel), gw_s 15 (by decide +kernel) (by decide +kernel)⟩
def y_Pan_roomOf : MethodName := ⟨"BrinePans$Pans", "roomOf", "(I)I"⟩
abbrev rm_Pan_roomOf : Room := { frames := 1, cells := 0, slots := 0, locals := 21 }
theorem mw_Pan_roomOf : MW y_Pan_roomOf prog_5_method_8_code 2 (some .int) 1 := ⟨gw_t 280 (by decide +kernel) (by decide +kernel), gw_t 4 (by decide +kernel) (by decide +kernel), (by decide +kernel)⟩
theorem mv_Pan_roomOf : MV y_Pan_roomOf := ⟨gw_t 279 (by decide +kernel) (by decide +kernel), gw_s 19 (by decide +kernel) (by decide +kernel)⟩
def y_Pan_sumOf : MethodName := ⟨"BrinePans$Pans", "sumOf", "([I)I"⟩
abbrev rm_Pan_sumOf : Room := { frames := 0, cells := 0, slots := 0, locals := 0 }
theorem mw_Pan_sumOf : MW y_Pan_sumOf prog_5_method_9_code 4 (some .int) 1 := ⟨gw_t 249 (by decide +kernel) (by decide +kernel), gw_t 4 (by decide +kernel) (by decide +kernel), (by decide +kernel)⟩
theorem mv_Pan_sumOf : MV y_Pan_sumOf := ⟨gw_t 248 (by decide +kernel) (by decide +kernel), gw_s 13 (by decide +kernel) (by decide +kernel)⟩
def y_Pan_crustOfAll : MethodName := ⟨"BrinePans$Pans", "crustOfAll", "()I"⟩
abbrev rm_Pan_crustOfAll : Room := { frames := 2, cells := 0, slots := 0, locals := 43 }
theorem mw_Pan_crustOfAll : MW y_Pan_crustOfAll prog_5_method_10_code 3 (some .int) 0 := ⟨gw_t 253 (by decide +kernel) (by decide +kernel), gw_t 4 (by decide +kernel) (by decide +kernel), (by decide +kernel)⟩
theorem mv_Pan_crustOfAll : MV y_Pan_crustOfAll := ⟨gw_t 252 (by decide +kernel) (by decide +kernel), gw_s 14 (by decide +kernel) (by decide +kernel)⟩
def y_Pan_canRake : MethodName := ⟨"BrinePans$Pans", "canRake", "(I)Z"⟩
abbrev rm_Pan_canRake : Room := { frames := 2, cells := 0, slots := 0, locals := 43 }
theorem mw_Pan_canRake : MW y_Pan_canRake prog_5_method_11_code 2 (some .boolean) 1 := ⟨gw_t 269 (by decide +kernel) (by decide +kernel), gw_t 4 (by decide +kernel) (by decide +kernel), (by decide +kernel)⟩
theorem mv_Pan_canRake : MV y_Pan_canRake := ⟨gw_t 268 (by decide +kernel) (by decide +kernel), gw_s 18 (by decide +kernel) (by decide +kernel)⟩
def y_Pan_rakeable : MethodName := ⟨"BrinePans$Pans", "rakeable", "()I"⟩
abbrev rm_Pan_rakeable : Room := { frames := 3, cells := 0, slots := 0, locals := 64 }
theorem mw_Pan_rakeable : MW y_Pan_rakeable prog_5_method_12_code 3 (some .int) 0 := ⟨gw_t 265 (by decide +kernel) (by decide +kernel), gw_t 4 (by decide +kernel) (by decide +kernel), (by decide +kernel)⟩
theorem mv_Pan_rakeable : MV y_Pan_rakeable := ⟨gw_t 264 (by decide +kernel) (by decide +kernel), gw_s 17 (by decide +kernel) (by decide +kernel)⟩
def y_Pan_isOpen : MethodName := ⟨"BrinePans$Pans", "isOpen", "(I)Z"⟩
abbrev rm_Pan_isOpen : Room := { frames := 0, cells := 0, slots := 0, locals := 0 }
theorem mw_Pan_isOpen : MW y_Pan_isOpen prog_5_method_13_code 2 (some .boolean) 1 := ⟨gw_t 308 (by decide +kernel) (by decide +kernel), gw_t 4 (by decide +kernel) (by decide +kernel), (by decide +kernel)⟩
theorem mv_Pan_isOpen : MV y_Pan_isOpen := ⟨gw_t 307 (by decide +kernel) (by decide +kernel), gw_s 25 (by decide +kernel) (by decide +kernel)⟩
def y_Pan_setGate : MethodName := ⟨"BrinePans$Pans", "setGate", "(IZ)V"⟩
abbrev rm_Pan_setGate : Room := { frames := 1, cells := 0, slots := 0, locals := 21 }
theorem mw_Pan_setGate : MW y_Pan_setGate prog_5_method_14_code 3 none 2 := ⟨gw_t 377 (by decide +kernel) (by decide +kernel), gw_t 4 (by decide +kernel) (by decide +kernel), (by decide +kernel)⟩
theorem mv_Pan_setGate : MV y_Pan_setGate := ⟨gw_t 376 (by decide +kernel) (by decide +kernel), gw_s 36 (by decide +kernel) (by decide +kernel)⟩
def y_Pan_drain : MethodName := ⟨"BrinePans$Pans", "drain", "(II)I"⟩
abbrev rm_Pan_drain : Room := { frames := 1, cells := 0, slots := 0, locals := 22 }
theorem mw_Pan_drain : MW y_Pan_drain prog_5_method_15_code 4 (some .int) 2 := ⟨gw_t 323 (by decide +kernel) (by decide +kernel), gw_t 4 (by decide +kernel) (by decide +kernel), (by decide +kernel)⟩
theorem mv_Pan_drain : MV y_Pan_drain := ⟨gw_t 322 (by decide +kernel) (by decide +kernel), gw_s 28 (by decide +kernel) (by decide +kernel)⟩
def y_Pan_fill : MethodName := ⟨"BrinePans$Pans", "fill", "(III)V"⟩
abbrev rm_Pan_fill : Room := { frames := 1, cells := 0, slots := 0, locals := 21 }
theorem mw_Pan_fill : MW y_Pan_fill prog_5_method_16_code 4 none 3 := ⟨gw_t 327 (by decide +kernel) (by decide +kernel), gw_t 4 (by decide +kernel) (by decide +kernel), (by decide +kernel)⟩
theorem mv_Pan_fill : MV y_Pan_fill := ⟨gw_t 326 (by decide +kernel) (by decide +kernel), gw_s 29 (by decide +kernel) (by decide +kernel)⟩
def y_Bri_isFromTo : MethodName := ⟨"BrinePans", "isFromTo", "(III)Z"⟩
abbrev rm_Bri_isFromTo : Room := { frames := 0, cells := 0, slots := 0, locals := 0 }
theorem mw_Bri_isFromTo : MW y_Bri_isFromTo prog_1_method_35_code 3 (some .boolean) 3 := ⟨gw_t 197 (by decide +kernel) (by decide +kernel), gw_t 1 (by decide +kernel) (by decide +kernel), (by decide +kernel)⟩
theorem ms_Bri_isFromTo : MS y_Bri_isFromTo := gw_t 196 (by decide +kernel) (by decide +kernel)
def y_Pan_takeSea : MethodName := ⟨"BrinePans$Pans", "takeSea", "(I)I"⟩
abbrev rm_Pan_takeSea : Room := { frames := 2, cells := 0, slots := 0, locals := 44 }
theorem mw_Pan_takeSea : MW y_Pan_takeSea prog_5_method_17_code 2 (some .int) 1 := ⟨gw_t 360 (by decide +kernel) (by decide +kernel), gw_t 4 (by decide +kernel) (by decide +kernel), (by decide +kernel)⟩
theorem mv_Pan_takeSea : MV y_Pan_takeSea := ⟨gw_t 359 (by decide +kernel) (by decide +kernel), gw_s 34 (by decide +kernel) (by decide +kernel)⟩
def y_Pan_letOn : MethodName := ⟨"BrinePans$Pans", "letOn", "(II)I"⟩
abbrev rm_Pan_letOn : Room := { frames := 2, cells := 0, slots := 0, locals := 45 }
theorem mw_Pan_letOn : MW y_Pan_letOn prog_5_method_18_code 4 (some .int) 2 := ⟨gw_t 312 (by decide +kernel) (by decide +kernel), gw_t 4 (by decide +kernel) (by decide +kernel), (by decide +kernel)⟩
theorem mv_Pan_letOn : MV y_Pan_letOn := ⟨gw_t 311 (by decide +kernel) (by decide +kernel), gw_s 26 (by decide +kernel) (by decide +kernel)⟩
def y_Pan_turnGate : MethodName := ⟨"BrinePans$Pans", "turnGate", "(I)I"⟩
abbrev rm_Pan_turnGate : Room := { frames := 2, cells := 0, slots := 0, locals := 43 }
theorem mw_Pan_turnGate : MW y_Pan_turnGate prog_5_method_19_code 2 (some .int) 1 := ⟨gw_t 373 (by decide +kernel) (by decide +kernel), gw_t 4 (by decide +kernel) (by decide +kernel), (by decide +kernel)⟩
theorem mv_Pan_turnGate : MV y_Pan_turnGate := ⟨gw_t 372 (by decide +kernel) (by decide +kernel), gw_s 35 (by decide +kernel) (by decide +kernel)⟩
def y_Pan_rakeUp : MethodName := ⟨"BrinePans$Pans", "rakeUp", "(I)I"⟩
abbrev rm_Pan_rakeUp : Room := { frames := 3, cells := 0, slots := 0, locals := 64 }
theorem mw_Pan_rakeUp : MW y_Pan_rakeUp prog_5_method_20_code 3 (some .int) 1 := ⟨gw_t 385 (by decide +kernel) (by decide +kernel), gw_t 4 (by decide +kernel) (by decide +kernel), (by decide +kernel)⟩
theorem mv_Pan_rakeUp : MV y_Pan_rakeUp := ⟨gw_t 384 (by decide +kernel) (by decide +kernel), gw_s 37 (by decide +kernel) (by decide +kernel)⟩
def y_Pan_rain : MethodName := ⟨"BrinePans$Pans", "rain", "(I)V"⟩
abbrev rm_Pan_rain : Room := { frames := 2, cells := 0, slots := 0, locals := 42 }
theorem mw_Pan_rain : MW y_Pan_rain prog_5_method_22_code 3 none 1 := ⟨gw_t 335 (by decide +kernel) (by decide +kernel), gw_t 4 (by decide +kernel) (by decide +kernel), (by decide +kernel)⟩
theorem mv_Pan_rain : MV y_Pan_rain := ⟨gw_t 334 (by decide +kernel) (by decide +kernel), gw_s 30 (by decide +kernel) (by decide +kernel)⟩
def y_Mth_max : MethodName := ⟨"java/lang/Math", "max", "(II)I"⟩
def y_Pan_shine : MethodName := ⟨"BrinePans$Pans", "shine", "(I)V"⟩
abbrev rm_Pan_shine : Room := { frames := 1, cells := 0, slots := 0, locals := 21 }
theorem mw_Pan_shine : MW y_Pan_shine prog_5_method_23_code 4 none 1 := ⟨gw_t 339 (by decide +kernel) (by decide +kernel), gw_t 4 (by decide +kernel) (by decide +kernel), (by decide +kernel)⟩
theorem mv_Pan_shine : MV y_Pan_shine := ⟨gw_t 338 (by decide +kernel) (by decide +kernel), gw_s 31 (by decide +kernel) (by decide +kernel)⟩
def y_Pan_passDay : MethodName := ⟨"BrinePans$Pans", "passDay", "(Z)V"⟩
abbrev rm_Pan_passDay : Room := { frames := 3, cells := 0, slots := 0, locals := 68 }
theorem mw_Pan_passDay : MW y_Pan_passDay prog_5_method_21_code 3 none 1 := ⟨gw_t 300 (by decide +kernel) (by decide +kernel), gw_t 4 (by decide +kernel) (by decide +kernel), (by decide +kernel)⟩
theorem mv_Pan_passDay : MV y_Pan_passDay := ⟨gw_t 299 (by decide +kernel) (by decide +kernel), gw_s 23 (by decide +kernel) (by decide +kernel)⟩
def y_Pan_passDays : MethodName := ⟨"BrinePans$Pans", "passDays", "(I)V"⟩
abbrev rm_Pan_passDays : Room := { frames := 4, cells := 0, slots := 0, locals := 90 }
theorem mw_Pan_passDays : MW y_Pan_passDays prog_5_method_24_code 3 none 1 := ⟨gw_t 402 (by decide +kernel) (by decide +kernel), gw_t 4 (by decide +kernel) (by decide +kernel), (by decide +kernel)⟩
theorem mv_Pan_passDays : MV y_Pan_passDays := ⟨gw_t 401 (by decide +kernel) (by decide +kernel), gw_s 39 (by decide +kernel) (by decide +kernel)⟩
def y_Pan_crustBehind : MethodName := ⟨"BrinePans$Pans", "crustBehind", "(I)I"⟩
abbrev rm_Pan_crustBehind : Room := { frames := 5, cells := 0, slots := 0, locals := 112 }
theorem mw_Pan_crustBehind : MW y_Pan_crustBehind prog_5_method_25_code 2 (some .int) 1 := ⟨gw_t 411 (by decide +kernel) (by decide +kernel), gw_t 4 (by decide +kernel) (by decide +kernel), (by decide +kernel)⟩
theorem mv_Pan_crustBehind : MV y_Pan_crustBehind := ⟨gw_t 410 (by decide +kernel) (by decide +kernel), gw_s 40 (by decide +kernel) (by decide +kernel)⟩
def y_Pan_isDone : MethodName := ⟨"BrinePans$Pans", "isDone", "(III)Z"⟩
abbrev rm_Pan_isDone : Room := { frames := 4, cells := 0, slots := 0, locals := 90 }
theorem mw_Pan_isDone : MW y_Pan_isDone prog_5_method_26_code 5 (some .boolean) 3 := ⟨gw_t 445 (by decide +kernel) (by decide +kernel), gw_t 4 (by decide +kernel) (by decide +kernel), (by decide +kernel)⟩
theorem mv_Pan_isDone : MV y_Pan_isDone := ⟨gw_t 444 (by decide +kernel) (by decide +kernel), gw_s 41 (by decide +kernel) (by decide +kernel)⟩
def y_Pan_befall : MethodName := ⟨"BrinePans$Pans", "befall", "(I)V"⟩
abbrev rm_Pan_befall : Room := { frames := 4, cells := 0, slots := 0, locals := 90 }
theorem mw_Pan_befall : MW y_Pan_befall prog_5_method_27_code 2 none 1 := ⟨gw_t 525 (by decide +kernel) (by decide +kernel), gw_t 4 (by decide +kernel) (by decide +kernel), (by decide +kernel)⟩
theorem mv_Pan_befall : MV y_Pan_befall := ⟨gw_t 524 (by decide +kernel) (by decide +kernel), gw_s 47 (by decide +kernel) (by decide +kernel)⟩
def y_Txt_init : MethodName := ⟨"BrinePans$Text", "<init>", "()V"⟩
def y_Txt_append : MethodName := ⟨"BrinePans$Text", "append", "(I)I"⟩
abbrev rm_Txt_append : Room := { frames := 0, cells := 0, slots := 0, locals := 0 }
theorem mw_Txt_append : MW y_Txt_append prog_6_method_2_code 2 (some .int) 1 := ⟨gw_t 172 (by decide +kernel) (by decide +kernel), gw_t 2 (by decide +kernel) (by decide +kernel), (by decide +kernel)⟩
theorem mv_Txt_append : MV y_Txt_append := ⟨gw_t 171 (by decide +kernel) (by decide +kernel), gw_s 0 (by decide +kernel) (by decide +kernel)⟩
def y_Txt_clear : MethodName := ⟨"BrinePans$Text", "clear", "()I"⟩
abbrev rm_Txt_clear : Room := { frames := 0, cells := 0, slots := 0, locals := 0 }
theorem mw_Txt_clear : MW y_Txt_clear prog_6_method_3_code 2 (some .int) 0 := ⟨gw_t 180 (by decide +kernel) (by decide +kernel), gw_t 2 (by decide +kernel) (by decide +kernel), (by decide +kernel)⟩
theorem mv_Txt_clear : MV y_Txt_clear := ⟨gw_t 179 (by decide +kernel) (by decide +kernel), gw_s 1 (by decide +kernel) (by decide +kernel)⟩
def y_Txt_stepIntoThing : MethodName := ⟨"BrinePans$Text", "stepIntoThing", "(I)I"⟩
abbrev rm_Txt_stepIntoThing : Room := { frames := 0, cells := 0, slots := 0, locals := 0 }
theorem mw_Txt_stepIntoThing : MW y_Txt_stepIntoThing prog_6_method_6_code 1 (some .int) 1 := ⟨gw_t 194 (by decide +kernel) (by decide +kernel), gw_t 2 (by decide +kernel) (by decide +kernel), (by decide +kernel)⟩
theorem ms_Txt_stepIntoThing : MS y_Txt_stepIntoThing := gw_t 193 (by decide +kernel) (by decide +kernel)
def y_Txt_stepBehind : MethodName := ⟨"BrinePans$Text", "stepBehind", "(II)I"⟩
abbrev rm_Txt_stepBehind : Room := { frames := 1, cells := 0, slots := 0, locals := 22 }
theorem mw_Txt_stepBehind : MW y_Txt_stepBehind prog_6_method_5_code 2 (some .int) 2 := ⟨gw_t 191 (by decide +kernel) (by decide +kernel), gw_t 2 (by decide +kernel) (by decide +kernel), (by decide +kernel)⟩
theorem ms_Txt_stepBehind : MS y_Txt_stepBehind := gw_t 190 (by decide +kernel) (by decide +kernel)
def y_Txt_firstFault : MethodName := ⟨"BrinePans$Text", "firstFault", "()I"⟩
abbrev rm_Txt_firstFault : Room := { frames := 2, cells := 0, slots := 0, locals := 43 }
theorem mw_Txt_firstFault : MW y_Txt_firstFault prog_6_method_4_code 5 (some .int) 0 := ⟨gw_t 188 (by decide +kernel) (by decide +kernel), gw_t 2 (by decide +kernel) (by decide +kernel), (by decide +kernel)⟩
theorem mv_Txt_firstFault : MV y_Txt_firstFault := ⟨gw_t 187 (by decide +kernel) (by decide +kernel), gw_s 2 (by decide +kernel) (by decide +kernel)⟩
def y_Txt_layOut : MethodName := ⟨"BrinePans$Text", "layOut", "(LBrinePans$Ground;LBrinePans$Pans;)V"⟩
abbrev rm_Txt_layOut : Room := { frames := 2, cells := 0, slots := 0, locals := 44 }
theorem mw_Txt_layOut : MW y_Txt_layOut prog_6_method_7_code 6 none 2 := ⟨gw_t 205 (by decide +kernel) (by decide +kernel), gw_t 2 (by decide +kernel) (by decide +kernel), (by decide +kernel)⟩
theorem mv_Txt_layOut : MV y_Txt_layOut := ⟨gw_t 204 (by decide +kernel) (by decide +kernel), gw_s 3 (by decide +kernel) (by decide +kernel)⟩
def y_Bri_init : MethodName := ⟨"BrinePans", "<init>", "()V"⟩
def y_Bri_write : MethodName := ⟨"BrinePans", "write", "(I)I"⟩
abbrev rm_Bri_write : Room := { frames := 1, cells := 0, slots := 0, locals := 21 }
theorem mw_Bri_write : MW y_Bri_write prog_1_method_2_code 2 (some .int) 1 := ⟨gw_t 168 (by decide +kernel) (by decide +kernel), gw_t 1 (by decide +kernel) (by decide +kernel), (by decide +kernel)⟩
theorem mv_Bri_write : MV y_Bri_write := ⟨gw_t 166 (by decide +kernel) (by decide +kernel), gw_t 167 (by decide +kernel) (by decide +kernel)⟩
def y_Bri_wipe : MethodName := ⟨"BrinePans", "wipe", "()I"⟩
abbrev rm_Bri_wipe : Room := { frames := 1, cells := 0, slots := 0, locals := 21 }
theorem mw_Bri_wipe : MW y_Bri_wipe prog_1_method_3_code 1 (some .int) 0 := ⟨gw_t 176 (by decide +kernel) (by decide +kernel), gw_t 1 (by decide +kernel) (by decide +kernel), (by decide +kernel)⟩
theorem mv_Bri_wipe : MV y_Bri_wipe := ⟨gw_t 174 (by decide +kernel) (by decide +kernel), gw_t 175 (by decide +kernel) (by decide +kernel)⟩
def y_Bri_fault : MethodName := ⟨"BrinePans", "fault", "()I"⟩
abbrev rm_Bri_fault : Room := { frames := 3, cells := 0, slots := 0, locals := 67 }
theorem mw_Bri_fault : MW y_Bri_fault prog_1_method_4_code 1 (some .int) 0 := ⟨gw_t 184 (by decide +kernel) (by decide +kernel), gw_t 1 (by decide +kernel) (by decide +kernel), (by decide +kernel)⟩
theorem mv_Bri_fault : MV y_Bri_fault := ⟨gw_t 182 (by decide +kernel) (by decide +kernel), gw_t 183 (by decide +kernel) (by decide +kernel)⟩
def y_Bri_marsh : MethodName := ⟨"BrinePans", "marsh", "()I"⟩
abbrev rm_Bri_marsh : Room := { frames := 3, cells := 0, slots := 0, locals := 69 }
theorem mw_Bri_marsh : MW y_Bri_marsh prog_1_method_5_code 2 (some .int) 0 := ⟨gw_t 201 (by decide +kernel) (by decide +kernel), gw_t 1 (by decide +kernel) (by decide +kernel), (by decide +kernel)⟩
theorem mv_Bri_marsh : MV y_Bri_marsh := ⟨gw_t 199 (by decide +kernel) (by decide +kernel), gw_t 200 (by decide +kernel) (by decide +kernel)⟩
def y_Bri_about : MethodName := ⟨"BrinePans", "about", "(I)I"⟩
abbrev rm_Bri_about : Room := { frames := 4, cells := 0, slots := 0, locals := 86 }
theorem mw_Bri_about : MW y_Bri_about prog_1_method_6_code 2 (some .int) 1 := ⟨gw_t 241 (by decide +kernel) (by decide +kernel), gw_t 1 (by decide +kernel) (by decide +kernel), (by decide +kernel)⟩
theorem mv_Bri_about : MV y_Bri_about := ⟨gw_t 239 (by decide +kernel) (by decide +kernel), gw_t 240 (by decide +kernel) (by decide +kernel)⟩
def y_Bri_pan : MethodName := ⟨"BrinePans", "pan", "(II)I"⟩
abbrev rm_Bri_pan : Room := { frames := 2, cells := 0, slots := 0, locals := 43 }
theorem mw_Bri_pan : MW y_Bri_pan prog_1_method_7_code 3 (some .int) 2 := ⟨gw_t 273 (by decide +kernel) (by decide +kernel), gw_t 1 (by decide +kernel) (by decide +kernel), (by decide +kernel)⟩
theorem mv_Bri_pan : MV y_Bri_pan := ⟨gw_t 271 (by decide +kernel) (by decide +kernel), gw_t 272 (by decide +kernel) (by decide +kernel)⟩
def y_Bri_fromNow : MethodName := ⟨"BrinePans", "fromNow", "()LBrinePans$Pans;"⟩
abbrev rm_Bri_fromNow : Room := { frames := 1, cells := 0, slots := 0, locals := 22 }
theorem mw_Bri_fromNow : MW y_Bri_fromNow prog_1_method_30_code 1 (some (.object "BrinePans$Pans")) 0 := ⟨gw_t 292 (by decide +kernel) (by decide +kernel), gw_t 1 (by decide +kernel) (by decide +kernel), (by decide +kernel)⟩
theorem mv_Bri_fromNow : MV y_Bri_fromNow := ⟨gw_t 291 (by decide +kernel) (by decide +kernel), gw_s 21 (by decide +kernel) (by decide +kernel)⟩
def y_Bri_settle : MethodName := ⟨"BrinePans", "settle", "(I)I"⟩
abbrev rm_Bri_settle : Room := { frames := 2, cells := 0, slots := 0, locals := 43 }
theorem mw_Bri_settle : MW y_Bri_settle prog_1_method_31_code 2 (some .int) 1 := ⟨gw_t 346 (by decide +kernel) (by decide +kernel), gw_t 1 (by decide +kernel) (by decide +kernel), (by decide +kernel)⟩
theorem mv_Bri_settle : MV y_Bri_settle := ⟨gw_t 345 (by decide +kernel) (by decide +kernel), gw_s 32 (by decide +kernel) (by decide +kernel)⟩
def y_Bri_day : MethodName := ⟨"BrinePans", "day", "()I"⟩
abbrev rm_Bri_day : Room := { frames := 4, cells := 0, slots := 0, locals := 90 }
theorem mw_Bri_day : MW y_Bri_day prog_1_method_8_code 2 (some .int) 0 := ⟨gw_t 288 (by decide +kernel) (by decide +kernel), gw_t 1 (by decide +kernel) (by decide +kernel), (by decide +kernel)⟩
theorem mv_Bri_day : MV y_Bri_day := ⟨gw_t 286 (by decide +kernel) (by decide +kernel), gw_t 287 (by decide +kernel) (by decide +kernel)⟩
def y_Bri_sea : MethodName := ⟨"BrinePans", "sea", "(I)I"⟩
abbrev rm_Bri_sea : Room := { frames := 3, cells := 0, slots := 0, locals := 65 }
theorem mw_Bri_sea : MW y_Bri_sea prog_1_method_9_code 2 (some .int) 1 := ⟨gw_t 356 (by decide +kernel) (by decide +kernel), gw_t 1 (by decide +kernel) (by decide +kernel), (by decide +kernel)⟩
theorem mv_Bri_sea : MV y_Bri_sea := ⟨gw_t 354 (by decide +kernel) (by decide +kernel), gw_t 355 (by decide +kernel) (by decide +kernel)⟩
def y_Bri_let : MethodName := ⟨"BrinePans", "let", "(II)I"⟩
abbrev rm_Bri_let : Room := { frames := 3, cells := 0, slots := 0, locals := 68 }
theorem mw_Bri_let : MW y_Bri_let prog_1_method_10_code 3 (some .int) 2 := ⟨gw_t 364 (by decide +kernel) (by decide +kernel), gw_t 1 (by decide +kernel) (by decide +kernel), (by decide +kernel)⟩
theorem mv_Bri_let : MV y_Bri_let := ⟨gw_t 362 (by decide +kernel) (by decide +kernel), gw_t 363 (by decide +kernel) (by decide +kernel)⟩
def y_Bri_turn : MethodName := ⟨"BrinePans", "turn", "(I)I"⟩
abbrev rm_Bri_turn : Room := { frames := 3, cells := 0, slots := 0, locals := 64 }
theorem mw_Bri_turn : MW y_Bri_turn prog_1_method_11_code 2 (some .int) 1 := ⟨gw_t 369 (by decide +kernel) (by decide +kernel), gw_t 1 (by decide +kernel) (by decide +kernel), (by decide +kernel)⟩
theorem mv_Bri_turn : MV y_Bri_turn := ⟨gw_t 367 (by decide +kernel) (by decide +kernel), gw_t 368 (by decide +kernel) (by decide +kernel)⟩
def y_Bri_rake : MethodName := ⟨"BrinePans", "rake", "(I)I"⟩
abbrev rm_Bri_rake : Room := { frames := 4, cells := 0, slots := 0, locals := 86 }
theorem mw_Bri_rake : MW y_Bri_rake prog_1_method_12_code 2 (some .int) 1 := ⟨gw_t 381 (by decide +kernel) (by decide +kernel), gw_t 1 (by decide +kernel) (by decide +kernel), (by decide +kernel)⟩
theorem mv_Bri_rake : MV y_Bri_rake := ⟨gw_t 379 (by decide +kernel) (by decide +kernel), gw_t 380 (by decide +kernel) (by decide +kernel)⟩
def y_Bri_undo : MethodName := ⟨"BrinePans", "undo", "()I"⟩
abbrev rm_Bri_undo : Room := { frames := 2, cells := 0, slots := 0, locals := 43 }
theorem mw_Bri_undo : MW y_Bri_undo prog_1_method_13_code 1 (some .int) 0 := ⟨gw_t 389 (by decide +kernel) (by decide +kernel), gw_t 1 (by decide +kernel) (by decide +kernel), (by decide +kernel)⟩
theorem mv_Bri_undo : MV y_Bri_undo := ⟨gw_t 387 (by decide +kernel) (by decide +kernel), gw_t 388 (by decide +kernel) (by decide +kernel)⟩
def y_Bri_later : MethodName := ⟨"BrinePans", "later", "(III)I"⟩
abbrev rm_Bri_later : Room := { frames := 5, cells := 0, slots := 0, locals := 112 }
theorem mw_Bri_later : MW y_Bri_later prog_1_method_14_code 5 (some .int) 3 := ⟨gw_t 397 (by decide +kernel) (by decide +kernel), gw_t 1 (by decide +kernel) (by decide +kernel), (by decide +kernel)⟩
theorem mv_Bri_later : MV y_Bri_later := ⟨gw_t 395 (by decide +kernel) (by decide +kernel), gw_t 396 (by decide +kernel) (by decide +kernel)⟩
def y_Bri_crust : MethodName := ⟨"BrinePans", "crust", "(I)I"⟩
abbrev rm_Bri_crust : Room := { frames := 6, cells := 0, slots := 0, locals := 133 }
theorem mw_Bri_crust : MW y_Bri_crust prog_1_method_15_code 2 (some .int) 1 := ⟨gw_t 407 (by decide +kernel) (by decide +kernel), gw_t 1 (by decide +kernel) (by decide +kernel), (by decide +kernel)⟩
theorem mv_Bri_crust : MV y_Bri_crust := ⟨gw_t 405 (by decide +kernel) (by decide +kernel), gw_t 406 (by decide +kernel) (by decide +kernel)⟩
def y_Bri_ripe : MethodName := ⟨"BrinePans", "ripe", "(I)I"⟩
abbrev rm_Bri_ripe : Room := { frames := 4, cells := 0, slots := 0, locals := 90 }
theorem mw_Bri_ripe : MW y_Bri_ripe prog_1_method_16_code 4 (some .int) 1 := ⟨gw_t 417 (by decide +kernel) (by decide +kernel), gw_t 1 (by decide +kernel) (by decide +kernel), (by decide +kernel)⟩
theorem mv_Bri_ripe : MV y_Bri_ripe := ⟨gw_t 415 (by decide +kernel) (by decide +kernel), gw_t 416 (by decide +kernel) (by decide +kernel)⟩
def y_Bri_best : MethodName := ⟨"BrinePans", "best", "(II)I"⟩
abbrev rm_Bri_best : Room := { frames := 6, cells := 0, slots := 0, locals := 133 }
theorem mw_Bri_best : MW y_Bri_best prog_1_method_17_code 9 (some .int) 2 := ⟨gw_t 422 (by decide +kernel) (by decide +kernel), gw_t 1 (by decide +kernel) (by decide +kernel), (by decide +kernel)⟩
theorem mv_Bri_best : MV y_Bri_best := ⟨gw_t 420 (by decide +kernel) (by decide +kernel), gw_t 421 (by decide +kernel) (by decide +kernel)⟩
def y_Int_bitCount : MethodName := ⟨"java/lang/Integer", "bitCount", "(I)I"⟩
abbrev rm_Int_bitCount : Room := { frames := 0, cells := 0, slots := 0, locals := 0 }
theorem mw_Int_bitCount : MW y_Int_bitCount prog_9_method_49_code 1 (some .int) 1 := ⟨gw_t 430 (by decide +kernel) (by decide +kernel), gw_t 9 (by decide +kernel) (by decide +kernel), (by decide +kernel)⟩
theorem ms_Int_bitCount : MS y_Int_bitCount := gw_t 429 (by decide +kernel) (by decide +kernel)
def y_Bri_gates : MethodName := ⟨"BrinePans", "gates", "(II)I"⟩
abbrev rm_Bri_gates : Room := { frames := 6, cells := 0, slots := 0, locals := 133 }
theorem mw_Bri_gates : MW y_Bri_gates prog_1_method_18_code 6 (some .int) 2 := ⟨gw_t 427 (by decide +kernel) (by decide +kernel), gw_t 1 (by decide +kernel) (by decide +kernel), (by decide +kernel)⟩
theorem mv_Bri_gates : MV y_Bri_gates := ⟨gw_t 425 (by decide +kernel) (by decide +kernel), gw_t 426 (by decide +kernel) (by decide +kernel)⟩
def y_Bri_judge : MethodName := ⟨"BrinePans", "judge", "(IJ)I"⟩
abbrev rm_Bri_judge : Room := { frames := 5, cells := 0, slots := 0, locals := 114 }
theorem mw_Bri_judge : MW y_Bri_judge prog_1_method_19_code 7 (some .int) 2 := ⟨gw_t 437 (by decide +kernel) (by decide +kernel), gw_t 1 (by decide +kernel) (by decide +kernel), (by decide +kernel)⟩
theorem mv_Bri_judge : MV y_Bri_judge := ⟨gw_t 435 (by decide +kernel) (by decide +kernel), gw_t 436 (by decide +kernel) (by decide +kernel)⟩
def y_Bri_orders : MethodName := ⟨"BrinePans", "orders", "(II)I"⟩
abbrev rm_Bri_orders : Room := { frames := 1, cells := 0, slots := 0, locals := 22 }
theorem mw_Bri_orders : MW y_Bri_orders prog_1_method_34_code 2 (some .int) 2 := ⟨gw_t 456 (by decide +kernel) (by decide +kernel), gw_t 1 (by decide +kernel) (by decide +kernel), (by decide +kernel)⟩
theorem ms_Bri_orders : MS y_Bri_orders := gw_t 455 (by decide +kernel) (by decide +kernel)
def y_Bri_commonMeasure : MethodName := ⟨"BrinePans", "commonMeasure", "(II)I"⟩
abbrev rm_Bri_commonMeasure : Room := { frames := 0, cells := 0, slots := 0, locals := 0 }
theorem mw_Bri_commonMeasure : MW y_Bri_commonMeasure prog_1_method_37_code 4 (some .int) 2 := ⟨gw_t 467 (by decide +kernel) (by decide +kernel), gw_t 1 (by decide +kernel) (by decide +kernel), (by decide +kernel)⟩
theorem ms_Bri_commonMeasure : MS y_Bri_commonMeasure := gw_t 466 (by decide +kernel) (by decide +kernel)
def y_Mth_abs : MethodName := ⟨"java/lang/Math", "abs", "(I)I"⟩
def y_Bri_told : MethodName := ⟨"BrinePans", "told", "(IIZ)I"⟩
abbrev rm_Bri_told : Room := { frames := 1, cells := 0, slots := 0, locals := 23 }
theorem mw_Bri_told : MW y_Bri_told prog_1_method_36_code 4 (some .int) 3 := ⟨gw_t 461 (by decide +kernel) (by decide +kernel), gw_t 1 (by decide +kernel) (by decide +kernel), (by decide +kernel)⟩
theorem ms_Bri_told : MS y_Bri_told := gw_t 460 (by decide +kernel) (by decide +kernel)
def y_Bri_share : MethodName := ⟨"BrinePans", "share", "(IZ)I"⟩
abbrev rm_Bri_share : Room := { frames := 6, cells := 0, slots := 0, locals := 133 }
theorem mw_Bri_share : MW y_Bri_share prog_1_method_20_code 7 (some .int) 2 := ⟨gw_t 452 (by decide +kernel) (by decide +kernel), gw_t 1 (by decide +kernel) (by decide +kernel), (by decide +kernel)⟩
theorem mv_Bri_share : MV y_Bri_share := ⟨gw_t 450 (by decide +kernel) (by decide +kernel), gw_t 451 (by decide +kernel) (by decide +kernel)⟩
def y_Bri_find : MethodName := ⟨"BrinePans", "find", "(III)I"⟩
abbrev rm_Bri_find : Room := { frames := 1, cells := 0, slots := 0, locals := 23 }
theorem mw_Bri_find : MW y_Bri_find prog_1_method_21_code 4 (some .int) 3 := ⟨gw_t 471 (by decide +kernel) (by decide +kernel), gw_t 1 (by decide +kernel) (by decide +kernel), (by decide +kernel)⟩
theorem mv_Bri_find : MV y_Bri_find := ⟨gw_t 469 (by decide +kernel) (by decide +kernel), gw_t 470 (by decide +kernel) (by decide +kernel)⟩
def y_Bri_forget : MethodName := ⟨"BrinePans", "forget", "()I"⟩
abbrev rm_Bri_forget : Room := { frames := 1, cells := 0, slots := 0, locals := 21 }
theorem mw_Bri_forget : MW y_Bri_forget prog_1_method_22_code 1 (some .int) 0 := ⟨gw_t 479 (by decide +kernel) (by decide +kernel), gw_t 1 (by decide +kernel) (by decide +kernel), (by decide +kernel)⟩
theorem mv_Bri_forget : MV y_Bri_forget := ⟨gw_t 477 (by decide +kernel) (by decide +kernel), gw_t 478 (by decide +kernel) (by decide +kernel)⟩
def y_Bri_salts : MethodName := ⟨"BrinePans", "salts", "(I)I"⟩
abbrev rm_Bri_salts : Room := { frames := 2, cells := 0, slots := 0, locals := 44 }
theorem mw_Bri_salts : MW y_Bri_salts prog_1_method_23_code 5 (some .int) 1 := ⟨gw_t 487 (by decide +kernel) (by decide +kernel), gw_t 1 (by decide +kernel) (by decide +kernel), (by decide +kernel)⟩
theorem mv_Bri_salts : MV y_Bri_salts := ⟨gw_t 485 (by decide +kernel) (by decide +kernel), gw_t 486 (by decide +kernel) (by decide +kernel)⟩
def y_Bri_isAtRest : MethodName := ⟨"BrinePans", "isAtRest", "(I)Z"⟩
abbrev rm_Bri_isAtRest : Room := { frames := 0, cells := 0, slots := 0, locals := 0 }
theorem mw_Bri_isAtRest : MW y_Bri_isAtRest prog_1_method_33_code 2 (some .boolean) 1 := ⟨gw_t 506 (by decide +kernel) (by decide +kernel), gw_t 1 (by decide +kernel) (by decide +kernel), (by decide +kernel)⟩
theorem mv_Bri_isAtRest : MV y_Bri_isAtRest := ⟨gw_t 505 (by decide +kernel) (by decide +kernel), gw_s 46 (by decide +kernel) (by decide +kernel)⟩
def y_Bri_weigh : MethodName := ⟨"BrinePans", "weigh", "(III)V"⟩
abbrev rm_Bri_weigh : Room := { frames := 5, cells := 0, slots := 0, locals := 112 }
theorem mw_Bri_weigh : MW y_Bri_weigh prog_1_method_32_code 5 none 3 := ⟨gw_t 501 (by decide +kernel) (by decide +kernel), gw_t 1 (by decide +kernel) (by decide +kernel), (by decide +kernel)⟩
theorem mv_Bri_weigh : MV y_Bri_weigh := ⟨gw_t 500 (by decide +kernel) (by decide +kernel), gw_s 45 (by decide +kernel) (by decide +kernel)⟩
def y_Bri_rests : MethodName := ⟨"BrinePans", "rests", "(III)I"⟩
abbrev rm_Bri_rests : Room := { frames := 6, cells := 0, slots := 0, locals := 136 }
theorem mw_Bri_rests : MW y_Bri_rests prog_1_method_24_code 7 (some .int) 3 := ⟨gw_t 496 (by decide +kernel) (by decide +kernel), gw_t 1 (by decide +kernel) (by decide +kernel), (by decide +kernel)⟩
theorem mv_Bri_rests : MV y_Bri_rests := ⟨gw_t 494 (by decide +kernel) (by decide +kernel), gw_t 495 (by decide +kernel) (by decide +kernel)⟩
def y_Bri_clouds : MethodName := ⟨"BrinePans", "clouds", "(IIIIZ)I"⟩
abbrev rm_Bri_clouds : Room := { frames := 4, cells := 0, slots := 0, locals := 90 }
theorem mw_Bri_clouds : MW y_Bri_clouds prog_1_method_25_code 13 (some .int) 5 := ⟨gw_t 510 (by decide +kernel) (by decide +kernel), gw_t 1 (by decide +kernel) (by decide +kernel), (by decide +kernel)⟩
theorem mv_Bri_clouds : MV y_Bri_clouds := ⟨gw_t 508 (by decide +kernel) (by decide +kernel), gw_t 509 (by decide +kernel) (by decide +kernel)⟩
def y_Bri_seed : MethodName := ⟨"BrinePans", "seed", "(J)J"⟩
abbrev rm_Bri_seed : Room := { frames := 0, cells := 0, slots := 0, locals := 0 }
theorem mw_Bri_seed : MW y_Bri_seed prog_1_method_26_code 5 (some .long) 1 := ⟨gw_t 514 (by decide +kernel) (by decide +kernel), gw_t 1 (by decide +kernel) (by decide +kernel), (by decide +kernel)⟩
theorem mv_Bri_seed : MV y_Bri_seed := ⟨gw_t 512 (by decide +kernel) (by decide +kernel), gw_t 513 (by decide +kernel) (by decide +kernel)⟩
def y_Bri_years : MethodName := ⟨"BrinePans", "years", "(I)I"⟩
abbrev rm_Bri_years : Room := { frames := 5, cells := 0, slots := 0, locals := 111 }
theorem mw_Bri_years : MW y_Bri_years prog_1_method_27_code 5 (some .int) 1 := ⟨gw_t 518 (by decide +kernel) (by decide +kernel), gw_t 1 (by decide +kernel) (by decide +kernel), (by decide +kernel)⟩
theorem mv_Bri_years : MV y_Bri_years := ⟨gw_t 516 (by decide +kernel) (by decide +kernel), gw_t 517 (by decide +kernel) (by decide +kernel)⟩
def y_Bri_keep : MethodName := ⟨"BrinePans", "keep", "(I)I"⟩
abbrev rm_Bri_keep : Room := { frames := 1, cells := 0, slots := 0, locals := 22 }
theorem mw_Bri_keep : MW y_Bri_keep prog_1_method_28_code 2 (some .int) 1 := ⟨gw_t 529 (by decide +kernel) (by decide +kernel), gw_t 1 (by decide +kernel) (by decide +kernel), (by decide +kernel)⟩
theorem mv_Bri_keep : MV y_Bri_keep := ⟨gw_t 527 (by decide +kernel) (by decide +kernel), gw_t 528 (by decide +kernel) (by decide +kernel)⟩
def y_Bri_again : MethodName := ⟨"BrinePans", "again", "(I)I"⟩
abbrev rm_Bri_again : Room := { frames := 1, cells := 0, slots := 0, locals := 22 }
theorem mw_Bri_again : MW y_Bri_again prog_1_method_29_code 2 (some .int) 1 := ⟨gw_t 533 (by decide +kernel) (by decide +kernel), gw_t 1 (by decide +kernel) (by decide +kernel), (by decide +kernel)⟩
theorem mv_Bri_again : MV y_Bri_again := ⟨gw_t 531 (by decide +kernel) (by decide +kernel), gw_t 532 (by decide +kernel) (by decide +kernel)⟩
def y_Mod_init : MethodName := ⟨"BrinePansModel", "<init>", "()V"⟩
def y_Mod_in : MethodName := ⟨"BrinePansModel", "in", "(JJJ)Z"⟩
abbrev rm_Mod_in : Room := { frames := 0, cells := 0, slots := 0, locals := 0 }
theorem mw_Mod_in : MW y_Mod_in prog_8_method_3_code 6 (some .boolean) 3 := ⟨gw_t 641 (by decide +kernel) (by decide +kernel), gw_t 7 (by decide +kernel) (by decide +kernel), (by decide +kernel)⟩
theorem ms_Mod_in : MS y_Mod_in := gw_t 640 (by decide +kernel) (by decide +kernel)
def y_Mod_has : MethodName := ⟨"BrinePansModel", "has", "(II)Z"⟩
abbrev rm_Mod_has : Room := { frames := 0, cells := 0, slots := 0, locals := 0 }
theorem mw_Mod_has : MW y_Mod_has prog_8_method_4_code 2 (some .boolean) 2 := ⟨gw_t 729 (by decide +kernel) (by decide +kernel), gw_t 7 (by decide +kernel) (by decide +kernel), (by decide +kernel)⟩
theorem ms_Mod_has : MS y_Mod_has := gw_t 728 (by decide +kernel) (by decide +kernel)
def y_Mod_many : MethodName := ⟨"BrinePansModel", "many", "(I)I"⟩
abbrev rm_Mod_many : Room := { frames := 0, cells := 0, slots := 0, locals := 0 }
theorem mw_Mod_many : MW y_Mod_many prog_8_method_5_code 3 (some .int) 1 := ⟨gw_t 811 (by decide +kernel) (by decide +kernel), gw_t 7 (by decide +kernel) (by decide +kernel), (by decide +kernel)⟩
theorem ms_Mod_many : MS y_Mod_many := gw_t 810 (by decide +kernel) (by decide +kernel)
def y_Mod_power : MethodName := ⟨"BrinePansModel", "power", "(II)I"⟩
abbrev rm_Mod_power : Room := { frames := 0, cells := 0, slots := 0, locals := 0 }
theorem mw_Mod_power : MW y_Mod_power prog_8_method_6_code 4 (some .int) 2 := ⟨gw_t 883 (by decide +kernel) (by decide +kernel), gw_t 7 (by decide +kernel) (by decide +kernel), (by decide +kernel)⟩
theorem ms_Mod_power : MS y_Mod_power := gw_t 882 (by decide +kernel) (by decide +kernel)
def y_Mod_noPan : MethodName := ⟨"BrinePansModel", "noPan", "(I)Z"⟩
abbrev rm_Mod_noPan : Room := { frames := 1, cells := 0, slots := 0, locals := 25 }
theorem mw_Mod_noPan : MW y_Mod_noPan prog_8_method_7_code 2 (some .boolean) 1 := ⟨gw_t 710 (by decide +kernel) (by decide +kernel), gw_t 7 (by decide +kernel) (by decide +kernel), (by decide +kernel)⟩
theorem mv_Mod_noPan : MV y_Mod_noPan := ⟨gw_t 709 (by decide +kernel) (by decide +kernel), gw_s 57 (by decide +kernel) (by decide +kernel)⟩
def y_Mod_noGate : MethodName := ⟨"BrinePansModel", "noGate", "(I)Z"⟩
abbrev rm_Mod_noGate : Room := { frames := 1, cells := 0, slots := 0, locals := 25 }
theorem mw_Mod_noGate : MW y_Mod_noGate prog_8_method_8_code 2 (some .boolean) 1 := ⟨gw_t 758 (by decide +kernel) (by decide +kernel), gw_t 7 (by decide +kernel) (by decide +kernel), (by decide +kernel)⟩
theorem mv_Mod_noGate : MV y_Mod_noGate := ⟨gw_t 757 (by decide +kernel) (by decide +kernel), gw_s 62 (by decide +kernel) (by decide +kernel)⟩
def y_Mod_write : MethodName := ⟨"BrinePansModel", "write", "(I)I"⟩
abbrev rm_Mod_write : Room := { frames := 1, cells := 0, slots := 0, locals := 25 }
theorem mw_Mod_write : MW y_Mod_write prog_8_method_9_code 2 (some .int) 1 := ⟨gw_t 637 (by decide +kernel) (by decide +kernel), gw_t 7 (by decide +kernel) (by decide +kernel), (by decide +kernel)⟩
theorem mv_Mod_write : MV y_Mod_write := ⟨gw_t 635 (by decide +kernel) (by decide +kernel), gw_t 636 (by decide +kernel) (by decide +kernel)⟩
def y_Mod_wipe : MethodName := ⟨"BrinePansModel", "wipe", "()I"⟩
abbrev rm_Mod_wipe : Room := { frames := 0, cells := 0, slots := 0, locals := 0 }
theorem mw_Mod_wipe : MW y_Mod_wipe prog_8_method_10_code 2 (some .int) 0 := ⟨gw_t 645 (by decide +kernel) (by decide +kernel), gw_t 7 (by decide +kernel) (by decide +kernel), (by decide +kernel)⟩
theorem mv_Mod_wipe : MV y_Mod_wipe := ⟨gw_t 643 (by decide +kernel) (by decide +kernel), gw_t 644 (by decide +kernel) (by decide +kernel)⟩
def y_Mod_figure : MethodName := ⟨"BrinePansModel", "figure", "(II)I"⟩
abbrev rm_Mod_figure : Room := { frames := 1, cells := 0, slots := 0, locals := 25 }
theorem mw_Mod_figure : MW y_Mod_figure prog_8_method_11_code 3 (some .int) 2 := ⟨gw_t 665 (by decide +kernel) (by decide +kernel), gw_t 7 (by decide +kernel) (by decide +kernel), (by decide +kernel)⟩
theorem mv_Mod_figure : MV y_Mod_figure := ⟨gw_t 664 (by decide +kernel) (by decide +kernel), gw_s 51 (by decide +kernel) (by decide +kernel)⟩
def y_Mod_readOnePan : MethodName := ⟨"BrinePansModel", "readOnePan", "()Z"⟩
abbrev rm_Mod_readOnePan : Room := { frames := 2, cells := 0, slots := 0, locals := 47 }
theorem mw_Mod_readOnePan : MW y_Mod_readOnePan prog_8_method_12_code 4 (some .boolean) 0 := ⟨gw_t 661 (by decide +kernel) (by decide +kernel), gw_t 7 (by decide +kernel) (by decide +kernel), (by decide +kernel)⟩
theorem mv_Mod_readOnePan : MV y_Mod_readOnePan := ⟨gw_t 660 (by decide +kernel) (by decide +kernel), gw_s 50 (by decide +kernel) (by decide +kernel)⟩
def y_Mod_readOneSky : MethodName := ⟨"BrinePansModel", "readOneSky", "(Z)Z"⟩
abbrev rm_Mod_readOneSky : Room := { frames := 2, cells := 0, slots := 0, locals := 47 }
theorem mw_Mod_readOneSky : MW y_Mod_readOneSky prog_8_method_13_code 3 (some .boolean) 1 := ⟨gw_t 669 (by decide +kernel) (by decide +kernel), gw_t 7 (by decide +kernel) (by decide +kernel), (by decide +kernel)⟩
theorem mv_Mod_readOneSky : MV y_Mod_readOneSky := ⟨gw_t 668 (by decide +kernel) (by decide +kernel), gw_s 52 (by decide +kernel) (by decide +kernel)⟩
def y_Mod_readThing : MethodName := ⟨"BrinePansModel", "readThing", "()Z"⟩
abbrev rm_Mod_readThing : Room := { frames := 3, cells := 0, slots := 0, locals := 70 }
theorem mw_Mod_readThing : MW y_Mod_readThing prog_8_method_14_code 2 (some .boolean) 0 := ⟨gw_t 657 (by decide +kernel) (by decide +kernel), gw_t 7 (by decide +kernel) (by decide +kernel), (by decide +kernel)⟩
theorem mv_Mod_readThing : MV y_Mod_readThing := ⟨gw_t 656 (by decide +kernel) (by decide +kernel), gw_s 49 (by decide +kernel) (by decide +kernel)⟩
def y_Mod_readMarsh : MethodName := ⟨"BrinePansModel", "readMarsh", "()I"⟩
abbrev rm_Mod_readMarsh : Room := { frames := 4, cells := 0, slots := 0, locals := 91 }
theorem mw_Mod_readMarsh : MW y_Mod_readMarsh prog_8_method_15_code 1 (some .int) 0 := ⟨gw_t 653 (by decide +kernel) (by decide +kernel), gw_t 7 (by decide +kernel) (by decide +kernel), (by decide +kernel)⟩
theorem mv_Mod_readMarsh : MV y_Mod_readMarsh := ⟨gw_t 652 (by decide +kernel) (by decide +kernel), gw_s 48 (by decide +kernel) (by decide +kernel)⟩
def y_Mod_fault : MethodName := ⟨"BrinePansModel", "fault", "()I"⟩
abbrev rm_Mod_fault : Room := { frames := 5, cells := 0, slots := 0, locals := 111 }
theorem mw_Mod_fault : MW y_Mod_fault prog_8_method_16_code 1 (some .int) 0 := ⟨gw_t 649 (by decide +kernel) (by decide +kernel), gw_t 7 (by decide +kernel) (by decide +kernel), (by decide +kernel)⟩
theorem mv_Mod_fault : MV y_Mod_fault := ⟨gw_t 647 (by decide +kernel) (by decide +kernel), gw_t 648 (by decide +kernel) (by decide +kernel)⟩
def y_Mod_marsh : MethodName := ⟨"BrinePansModel", "marsh", "()I"⟩
abbrev rm_Mod_marsh : Room := { frames := 5, cells := 0, slots := 0, locals := 111 }
theorem mw_Mod_marsh : MW y_Mod_marsh prog_8_method_17_code 2 (some .int) 0 := ⟨gw_t 673 (by decide +kernel) (by decide +kernel), gw_t 7 (by decide +kernel) (by decide +kernel), (by decide +kernel)⟩
theorem mv_Mod_marsh : MV y_Mod_marsh := ⟨gw_t 671 (by decide +kernel) (by decide +kernel), gw_t 672 (by decide +kernel) (by decide +kernel)⟩
def y_Mod_room : MethodName := ⟨"BrinePansModel", "room", "([II)I"⟩
abbrev rm_Mod_room : Room := { frames := 0, cells := 0, slots := 0, locals := 0 }
theorem mw_Mod_room : MW y_Mod_room prog_8_method_18_code 3 (some .int) 2 := ⟨gw_t 714 (by decide +kernel) (by decide +kernel), gw_t 7 (by decide +kernel) (by decide +kernel), (by decide +kernel)⟩
theorem mv_Mod_room : MV y_Mod_room := ⟨gw_t 713 (by decide +kernel) (by decide +kernel), gw_s 58 (by decide +kernel) (by decide +kernel)⟩
def y_Mod_brine : MethodName := ⟨"BrinePansModel", "brine", "([II)I"⟩
abbrev rm_Mod_brine : Room := { frames := 0, cells := 0, slots := 0, locals := 0 }
theorem mw_Mod_brine : MW y_Mod_brine prog_8_method_19_code 2 (some .int) 2 := ⟨gw_t 695 (by decide +kernel) (by decide +kernel), gw_t 7 (by decide +kernel) (by decide +kernel), (by decide +kernel)⟩
theorem ms_Mod_brine : MS y_Mod_brine := gw_t 694 (by decide +kernel) (by decide +kernel)
def y_Mod_crustOf : MethodName := ⟨"BrinePansModel", "crustOf", "([II)I"⟩
abbrev rm_Mod_crustOf : Room := { frames := 1, cells := 0, slots := 0, locals := 21 }
theorem mw_Mod_crustOf : MW y_Mod_crustOf prog_8_method_20_code 2 (some .int) 2 := ⟨gw_t 692 (by decide +kernel) (by decide +kernel), gw_t 7 (by decide +kernel) (by decide +kernel), (by decide +kernel)⟩
theorem ms_Mod_crustOf : MS y_Mod_crustOf := gw_t 691 (by decide +kernel) (by decide +kernel)
def y_Mod_crustOfAll : MethodName := ⟨"BrinePansModel", "crustOfAll", "([I)I"⟩
abbrev rm_Mod_crustOfAll : Room := { frames := 2, cells := 0, slots := 0, locals := 42 }
theorem mw_Mod_crustOfAll : MW y_Mod_crustOfAll prog_8_method_21_code 4 (some .int) 1 := ⟨gw_t 689 (by decide +kernel) (by decide +kernel), gw_t 7 (by decide +kernel) (by decide +kernel), (by decide +kernel)⟩
theorem mv_Mod_crustOfAll : MV y_Mod_crustOfAll := ⟨gw_t 688 (by decide +kernel) (by decide +kernel), gw_s 55 (by decide +kernel) (by decide +kernel)⟩
def y_Mod_flow : MethodName := ⟨"BrinePansModel", "flow", "([III)I"⟩
abbrev rm_Mod_flow : Room := { frames := 1, cells := 0, slots := 0, locals := 21 }
theorem mw_Mod_flow : MW y_Mod_flow prog_8_method_22_code 4 (some .int) 3 := ⟨gw_t 735 (by decide +kernel) (by decide +kernel), gw_t 7 (by decide +kernel) (by decide +kernel), (by decide +kernel)⟩
theorem ms_Mod_flow : MS y_Mod_flow := gw_t 734 (by decide +kernel) (by decide +kernel)
def y_Mod_salted : MethodName := ⟨"BrinePansModel", "salted", "([III)V"⟩
abbrev rm_Mod_salted : Room := { frames := 0, cells := 0, slots := 0, locals := 0 }
theorem mw_Mod_salted : MW y_Mod_salted prog_8_method_23_code 4 none 3 := ⟨gw_t 738 (by decide +kernel) (by decide +kernel), gw_t 7 (by decide +kernel) (by decide +kernel), (by decide +kernel)⟩
theorem ms_Mod_salted : MS y_Mod_salted := gw_t 737 (by decide +kernel) (by decide +kernel)
def y_Mod_goLet : MethodName := ⟨"BrinePansModel", "goLet", "([III)I"⟩
abbrev rm_Mod_goLet : Room := { frames := 2, cells := 0, slots := 0, locals := 44 }
theorem mw_Mod_goLet : MW y_Mod_goLet prog_8_method_24_code 4 (some .int) 3 := ⟨gw_t 732 (by decide +kernel) (by decide +kernel), gw_t 7 (by decide +kernel) (by decide +kernel), (by decide +kernel)⟩
theorem ms_Mod_goLet : MS y_Mod_goLet := gw_t 731 (by decide +kernel) (by decide +kernel)
def y_Mod_skyOf : MethodName := ⟨"BrinePansModel", "skyOf", "([I)I"⟩
abbrev rm_Mod_skyOf : Room := { frames := 0, cells := 0, slots := 0, locals := 0 }
theorem mw_Mod_skyOf : MW y_Mod_skyOf prog_8_method_25_code 2 (some .int) 1 := ⟨gw_t 681 (by decide +kernel) (by decide +kernel), gw_t 7 (by decide +kernel) (by decide +kernel), (by decide +kernel)⟩
theorem mv_Mod_skyOf : MV y_Mod_skyOf := ⟨gw_t 680 (by decide +kernel) (by decide +kernel), gw_s 53 (by decide +kernel) (by decide +kernel)⟩
def y_Mod_weather : MethodName := ⟨"BrinePansModel", "weather", "([III)V"⟩
abbrev rm_Mod_weather : Room := { frames := 1, cells := 0, slots := 0, locals := 22 }
theorem mw_Mod_weather : MW y_Mod_weather prog_8_method_26_code 5 none 3 := ⟨gw_t 742 (by decide +kernel) (by decide +kernel), gw_t 7 (by decide +kernel) (by decide +kernel), (by decide +kernel)⟩
theorem mv_Mod_weather : MV y_Mod_weather := ⟨gw_t 741 (by decide +kernel) (by decide +kernel), gw_s 61 (by decide +kernel) (by decide +kernel)⟩
def y_Mod_goDay : MethodName := ⟨"BrinePansModel", "goDay", "([IZ)V"⟩
abbrev rm_Mod_goDay : Room := { frames := 3, cells := 0, slots := 0, locals := 67 }
theorem mw_Mod_goDay : MW y_Mod_goDay prog_8_method_27_code 5 none 2 := ⟨gw_t 726 (by decide +kernel) (by decide +kernel), gw_t 7 (by decide +kernel) (by decide +kernel), (by decide +kernel)⟩
theorem mv_Mod_goDay : MV y_Mod_goDay := ⟨gw_t 725 (by decide +kernel) (by decide +kernel), gw_s 60 (by decide +kernel) (by decide +kernel)⟩
def y_Mod_goDays : MethodName := ⟨"BrinePansModel", "goDays", "([II)V"⟩
abbrev rm_Mod_goDays : Room := { frames := 4, cells := 0, slots := 0, locals := 91 }
theorem mw_Mod_goDays : MW y_Mod_goDays prog_8_method_28_code 4 none 2 := ⟨gw_t 787 (by decide +kernel) (by decide +kernel), gw_t 7 (by decide +kernel) (by decide +kernel), (by decide +kernel)⟩
theorem mv_Mod_goDays : MV y_Mod_goDays := ⟨gw_t 786 (by decide +kernel) (by decide +kernel), gw_s 64 (by decide +kernel) (by decide +kernel)⟩
def y_Mod_canRake : MethodName := ⟨"BrinePansModel", "canRake", "([II)Z"⟩
abbrev rm_Mod_canRake : Room := { frames := 2, cells := 0, slots := 0, locals := 42 }
theorem mw_Mod_canRake : MW y_Mod_canRake prog_8_method_29_code 2 (some .boolean) 2 := ⟨gw_t 702 (by decide +kernel) (by decide +kernel), gw_t 7 (by decide +kernel) (by decide +kernel), (by decide +kernel)⟩
theorem ms_Mod_canRake : MS y_Mod_canRake := gw_t 701 (by decide +kernel) (by decide +kernel)
def y_Mod_ripeOnes : MethodName := ⟨"BrinePansModel", "ripeOnes", "([I)I"⟩
abbrev rm_Mod_ripeOnes : Room := { frames := 3, cells := 0, slots := 0, locals := 63 }
theorem mw_Mod_ripeOnes : MW y_Mod_ripeOnes prog_8_method_30_code 4 (some .int) 1 := ⟨gw_t 699 (by decide +kernel) (by decide +kernel), gw_t 7 (by decide +kernel) (by decide +kernel), (by decide +kernel)⟩
theorem mv_Mod_ripeOnes : MV y_Mod_ripeOnes := ⟨gw_t 698 (by decide +kernel) (by decide +kernel), gw_s 56 (by decide +kernel) (by decide +kernel)⟩
def y_Mod_sumFrom : MethodName := ⟨"BrinePansModel", "sumFrom", "(I)I"⟩
abbrev rm_Mod_sumFrom : Room := { frames := 0, cells := 0, slots := 0, locals := 0 }
theorem mw_Mod_sumFrom : MW y_Mod_sumFrom prog_8_method_31_code 4 (some .int) 1 := ⟨gw_t 685 (by decide +kernel) (by decide +kernel), gw_t 7 (by decide +kernel) (by decide +kernel), (by decide +kernel)⟩
theorem mv_Mod_sumFrom : MV y_Mod_sumFrom := ⟨gw_t 684 (by decide +kernel) (by decide +kernel), gw_s 54 (by decide +kernel) (by decide +kernel)⟩
def y_Mod_about : MethodName := ⟨"BrinePansModel", "about", "(I)I"⟩
abbrev rm_Mod_about : Room := { frames := 4, cells := 0, slots := 0, locals := 86 }
theorem mw_Mod_about : MW y_Mod_about prog_8_method_32_code 2 (some .int) 1 := ⟨gw_t 677 (by decide +kernel) (by decide +kernel), gw_t 7 (by decide +kernel) (by decide +kernel), (by decide +kernel)⟩
theorem mv_Mod_about : MV y_Mod_about := ⟨gw_t 675 (by decide +kernel) (by decide +kernel), gw_t 676 (by decide +kernel) (by decide +kernel)⟩
def y_Mod_pan : MethodName := ⟨"BrinePansModel", "pan", "(II)I"⟩
abbrev rm_Mod_pan : Room := { frames := 2, cells := 0, slots := 0, locals := 46 }
theorem mw_Mod_pan : MW y_Mod_pan prog_8_method_33_code 3 (some .int) 2 := ⟨gw_t 706 (by decide +kernel) (by decide +kernel), gw_t 7 (by decide +kernel) (by decide +kernel), (by decide +kernel)⟩
theorem mv_Mod_pan : MV y_Mod_pan := ⟨gw_t 704 (by decide +kernel) (by decide +kernel), gw_t 705 (by decide +kernel) (by decide +kernel)⟩
def y_Mod_note : MethodName := ⟨"BrinePansModel", "note", "()V"⟩
abbrev rm_Mod_note : Room := { frames := 0, cells := 0, slots := 0, locals := 0 }
theorem mw_Mod_note : MW y_Mod_note prog_8_method_34_code 2 none 0 := ⟨gw_t 722 (by decide +kernel) (by decide +kernel), gw_t 7 (by decide +kernel) (by decide +kernel), (by decide +kernel)⟩
theorem mv_Mod_note : MV y_Mod_note := ⟨gw_t 721 (by decide +kernel) (by decide +kernel), gw_s 59 (by decide +kernel) (by decide +kernel)⟩
def y_Mod_day : MethodName := ⟨"BrinePansModel", "day", "()I"⟩
abbrev rm_Mod_day : Room := { frames := 4, cells := 0, slots := 0, locals := 91 }
theorem mw_Mod_day : MW y_Mod_day prog_8_method_35_code 1 (some .int) 0 := ⟨gw_t 718 (by decide +kernel) (by decide +kernel), gw_t 7 (by decide +kernel) (by decide +kernel), (by decide +kernel)⟩
theorem mv_Mod_day : MV y_Mod_day := ⟨gw_t 716 (by decide +kernel) (by decide +kernel), gw_t 717 (by decide +kernel) (by decide +kernel)⟩
def y_Mod_goSea : MethodName := ⟨"BrinePansModel", "goSea", "([II)V"⟩
abbrev rm_Mod_goSea : Room := { frames := 1, cells := 0, slots := 0, locals := 23 }
theorem mw_Mod_goSea : MW y_Mod_goSea prog_8_method_36_code 2 none 2 := ⟨gw_t 750 (by decide +kernel) (by decide +kernel), gw_t 7 (by decide +kernel) (by decide +kernel), (by decide +kernel)⟩
theorem ms_Mod_goSea : MS y_Mod_goSea := gw_t 749 (by decide +kernel) (by decide +kernel)
def y_Mod_sea : MethodName := ⟨"BrinePansModel", "sea", "(I)I"⟩
abbrev rm_Mod_sea : Room := { frames := 2, cells := 0, slots := 0, locals := 44 }
theorem mw_Mod_sea : MW y_Mod_sea prog_8_method_37_code 2 (some .int) 1 := ⟨gw_t 746 (by decide +kernel) (by decide +kernel), gw_t 7 (by decide +kernel) (by decide +kernel), (by decide +kernel)⟩
theorem mv_Mod_sea : MV y_Mod_sea := ⟨gw_t 744 (by decide +kernel) (by decide +kernel), gw_t 745 (by decide +kernel) (by decide +kernel)⟩
def y_Mod_let : MethodName := ⟨"BrinePansModel", "let", "(II)I"⟩
abbrev rm_Mod_let : Room := { frames := 3, cells := 0, slots := 0, locals := 67 }
theorem mw_Mod_let : MW y_Mod_let prog_8_method_38_code 3 (some .int) 2 := ⟨gw_t 754 (by decide +kernel) (by decide +kernel), gw_t 7 (by decide +kernel) (by decide +kernel), (by decide +kernel)⟩
theorem mv_Mod_let : MV y_Mod_let := ⟨gw_t 752 (by decide +kernel) (by decide +kernel), gw_t 753 (by decide +kernel) (by decide +kernel)⟩
def y_Mod_turn : MethodName := ⟨"BrinePansModel", "turn", "(I)I"⟩
abbrev rm_Mod_turn : Room := { frames := 2, cells := 0, slots := 0, locals := 46 }
theorem mw_Mod_turn : MW y_Mod_turn prog_8_method_39_code 2 (some .int) 1 := ⟨gw_t 762 (by decide +kernel) (by decide +kernel), gw_t 7 (by decide +kernel) (by decide +kernel), (by decide +kernel)⟩
theorem mv_Mod_turn : MV y_Mod_turn := ⟨gw_t 760 (by decide +kernel) (by decide +kernel), gw_t 761 (by decide +kernel) (by decide +kernel)⟩
def y_Mod_goRake : MethodName := ⟨"BrinePansModel", "goRake", "([II)I"⟩
abbrev rm_Mod_goRake : Room := { frames := 2, cells := 0, slots := 0, locals := 42 }
theorem mw_Mod_goRake : MW y_Mod_goRake prog_8_method_40_code 3 (some .int) 2 := ⟨gw_t 769 (by decide +kernel) (by decide +kernel), gw_t 7 (by decide +kernel) (by decide +kernel), (by decide +kernel)⟩
theorem ms_Mod_goRake : MS y_Mod_goRake := gw_t 768 (by decide +kernel) (by decide +kernel)
def y_Mod_rake : MethodName := ⟨"BrinePansModel", "rake", "(I)I"⟩
abbrev rm_Mod_rake : Room := { frames := 3, cells := 0, slots := 0, locals := 64 }
theorem mw_Mod_rake : MW y_Mod_rake prog_8_method_41_code 2 (some .int) 1 := ⟨gw_t 766 (by decide +kernel) (by decide +kernel), gw_t 7 (by decide +kernel) (by decide +kernel), (by decide +kernel)⟩
theorem mv_Mod_rake : MV y_Mod_rake := ⟨gw_t 764 (by decide +kernel) (by decide +kernel), gw_t 765 (by decide +kernel) (by decide +kernel)⟩
def y_Mod_undo : MethodName := ⟨"BrinePansModel", "undo", "()I"⟩
abbrev rm_Mod_undo : Room := { frames := 0, cells := 0, slots := 0, locals := 0 }
theorem mw_Mod_undo : MW y_Mod_undo prog_8_method_42_code 2 (some .int) 0 := ⟨gw_t 773 (by decide +kernel) (by decide +kernel), gw_t 7 (by decide +kernel) (by decide +kernel), (by decide +kernel)⟩
theorem mv_Mod_undo : MV y_Mod_undo := ⟨gw_t 771 (by decide +kernel) (by decide +kernel), gw_t 772 (by decide +kernel) (by decide +kernel)⟩
def y_Mod_begin : MethodName := ⟨"BrinePansModel", "begin", "()V"⟩
abbrev rm_Mod_begin : Room := { frames := 0, cells := 0, slots := 0, locals := 0 }
theorem mw_Mod_begin : MW y_Mod_begin prog_8_method_43_code 2 none 0 := ⟨gw_t 783 (by decide +kernel) (by decide +kernel), gw_t 7 (by decide +kernel) (by decide +kernel), (by decide +kernel)⟩
theorem mv_Mod_begin : MV y_Mod_begin := ⟨gw_t 782 (by decide +kernel) (by decide +kernel), gw_s 63 (by decide +kernel) (by decide +kernel)⟩
def y_Mod_later : MethodName := ⟨"BrinePansModel", "later", "(III)I"⟩
abbrev rm_Mod_later : Room := { frames := 5, cells := 0, slots := 0, locals := 114 }
theorem mw_Mod_later : MW y_Mod_later prog_8_method_44_code 4 (some .int) 3 := ⟨gw_t 777 (by decide +kernel) (by decide +kernel), gw_t 7 (by decide +kernel) (by decide +kernel), (by decide +kernel)⟩
theorem mv_Mod_later : MV y_Mod_later := ⟨gw_t 775 (by decide +kernel) (by decide +kernel), gw_t 776 (by decide +kernel) (by decide +kernel)⟩
def y_Mod_crust : MethodName := ⟨"BrinePansModel", "crust", "(I)I"⟩
abbrev rm_Mod_crust : Room := { frames := 5, cells := 0, slots := 0, locals := 114 }
theorem mw_Mod_crust : MW y_Mod_crust prog_8_method_45_code 2 (some .int) 1 := ⟨gw_t 791 (by decide +kernel) (by decide +kernel), gw_t 7 (by decide +kernel) (by decide +kernel), (by decide +kernel)⟩
theorem mv_Mod_crust : MV y_Mod_crust := ⟨gw_t 789 (by decide +kernel) (by decide +kernel), gw_t 790 (by decide +kernel) (by decide +kernel)⟩
def y_Mod_ripe : MethodName := ⟨"BrinePansModel", "ripe", "(I)I"⟩
abbrev rm_Mod_ripe : Room := { frames := 4, cells := 0, slots := 0, locals := 91 }
theorem mw_Mod_ripe : MW y_Mod_ripe prog_8_method_46_code 3 (some .int) 1 := ⟨gw_t 795 (by decide +kernel) (by decide +kernel), gw_t 7 (by decide +kernel) (by decide +kernel), (by decide +kernel)⟩
theorem mv_Mod_ripe : MV y_Mod_ripe := ⟨gw_t 793 (by decide +kernel) (by decide +kernel), gw_t 794 (by decide +kernel) (by decide +kernel)⟩
def y_Mod_findBest : MethodName := ⟨"BrinePansModel", "findBest", "(I)V"⟩
abbrev rm_Mod_findBest : Room := { frames := 5, cells := 0, slots := 0, locals := 114 }
theorem mw_Mod_findBest : MW y_Mod_findBest prog_8_method_47_code 5 none 1 := ⟨gw_t 803 (by decide +kernel) (by decide +kernel), gw_t 7 (by decide +kernel) (by decide +kernel), (by decide +kernel)⟩
theorem mv_Mod_findBest : MV y_Mod_findBest := ⟨gw_t 802 (by decide +kernel) (by decide +kernel), gw_s 65 (by decide +kernel) (by decide +kernel)⟩
def y_Mod_best : MethodName := ⟨"BrinePansModel", "best", "(II)I"⟩
abbrev rm_Mod_best : Room := { frames := 6, cells := 0, slots := 0, locals := 138 }
theorem mw_Mod_best : MW y_Mod_best prog_8_method_48_code 3 (some .int) 2 := ⟨gw_t 799 (by decide +kernel) (by decide +kernel), gw_t 7 (by decide +kernel) (by decide +kernel), (by decide +kernel)⟩
theorem mv_Mod_best : MV y_Mod_best := ⟨gw_t 797 (by decide +kernel) (by decide +kernel), gw_t 798 (by decide +kernel) (by decide +kernel)⟩
def y_Mod_gates : MethodName := ⟨"BrinePansModel", "gates", "(II)I"⟩
abbrev rm_Mod_gates : Room := { frames := 5, cells := 0, slots := 0, locals := 114 }
theorem mw_Mod_gates : MW y_Mod_gates prog_8_method_49_code 6 (some .int) 2 := ⟨gw_t 807 (by decide +kernel) (by decide +kernel), gw_t 7 (by decide +kernel) (by decide +kernel), (by decide +kernel)⟩
theorem mv_Mod_gates : MV y_Mod_gates := ⟨gw_t 805 (by decide +kernel) (by decide +kernel), gw_t 806 (by decide +kernel) (by decide +kernel)⟩
def y_Mod_longPower : MethodName := ⟨"BrinePansModel", "longPower", "(JI)J"⟩
abbrev rm_Mod_longPower : Room := { frames := 0, cells := 0, slots := 0, locals := 0 }
theorem mw_Mod_longPower : MW y_Mod_longPower prog_8_method_50_code 6 (some .long) 2 := ⟨gw_t 820 (by decide +kernel) (by decide +kernel), gw_t 7 (by decide +kernel) (by decide +kernel), (by decide +kernel)⟩
theorem ms_Mod_longPower : MS y_Mod_longPower := gw_t 819 (by decide +kernel) (by decide +kernel)
def y_Mod_seas : MethodName := ⟨"BrinePansModel", "seas", "(I)Z"⟩
abbrev rm_Mod_seas : Room := { frames := 2, cells := 0, slots := 0, locals := 44 }
theorem mw_Mod_seas : MW y_Mod_seas prog_8_method_51_code 3 (some .boolean) 1 := ⟨gw_t 828 (by decide +kernel) (by decide +kernel), gw_t 7 (by decide +kernel) (by decide +kernel), (by decide +kernel)⟩
theorem mv_Mod_seas : MV y_Mod_seas := ⟨gw_t 827 (by decide +kernel) (by decide +kernel), gw_s 67 (by decide +kernel) (by decide +kernel)⟩
def y_Mod_lets : MethodName := ⟨"BrinePansModel", "lets", "(II)Z"⟩
abbrev rm_Mod_lets : Room := { frames := 3, cells := 0, slots := 0, locals := 67 }
theorem mw_Mod_lets : MW y_Mod_lets prog_8_method_52_code 4 (some .boolean) 2 := ⟨gw_t 832 (by decide +kernel) (by decide +kernel), gw_t 7 (by decide +kernel) (by decide +kernel), (by decide +kernel)⟩
theorem mv_Mod_lets : MV y_Mod_lets := ⟨gw_t 831 (by decide +kernel) (by decide +kernel), gw_s 68 (by decide +kernel) (by decide +kernel)⟩
def y_Mod_turns : MethodName := ⟨"BrinePansModel", "turns", "(I)Z"⟩
abbrev rm_Mod_turns : Room := { frames := 2, cells := 0, slots := 0, locals := 46 }
theorem mw_Mod_turns : MW y_Mod_turns prog_8_method_53_code 3 (some .boolean) 1 := ⟨gw_t 836 (by decide +kernel) (by decide +kernel), gw_t 7 (by decide +kernel) (by decide +kernel), (by decide +kernel)⟩
theorem mv_Mod_turns : MV y_Mod_turns := ⟨gw_t 835 (by decide +kernel) (by decide +kernel), gw_s 69 (by decide +kernel) (by decide +kernel)⟩
def y_Mod_rakes : MethodName := ⟨"BrinePansModel", "rakes", "(I)Z"⟩
abbrev rm_Mod_rakes : Room := { frames := 3, cells := 0, slots := 0, locals := 64 }
theorem mw_Mod_rakes : MW y_Mod_rakes prog_8_method_54_code 3 (some .boolean) 1 := ⟨gw_t 840 (by decide +kernel) (by decide +kernel), gw_t 7 (by decide +kernel) (by decide +kernel), (by decide +kernel)⟩
theorem mv_Mod_rakes : MV y_Mod_rakes := ⟨gw_t 839 (by decide +kernel) (by decide +kernel), gw_s 70 (by decide +kernel) (by decide +kernel)⟩
def y_Mod_does : MethodName := ⟨"BrinePansModel", "does", "(I)Z"⟩
abbrev rm_Mod_does : Room := { frames := 4, cells := 0, slots := 0, locals := 91 }
theorem mw_Mod_does : MW y_Mod_does prog_8_method_55_code 5 (some .boolean) 1 := ⟨gw_t 824 (by decide +kernel) (by decide +kernel), gw_t 7 (by decide +kernel) (by decide +kernel), (by decide +kernel)⟩
theorem mv_Mod_does : MV y_Mod_does := ⟨gw_t 823 (by decide +kernel) (by decide +kernel), gw_s 66 (by decide +kernel) (by decide +kernel)⟩
def y_Mod_judge : MethodName := ⟨"BrinePansModel", "judge", "(IJ)I"⟩
abbrev rm_Mod_judge : Room := { frames := 5, cells := 0, slots := 0, locals := 115 }
theorem mw_Mod_judge : MW y_Mod_judge prog_8_method_56_code 5 (some .int) 2 := ⟨gw_t 815 (by decide +kernel) (by decide +kernel), gw_t 7 (by decide +kernel) (by decide +kernel), (by decide +kernel)⟩
theorem mv_Mod_judge : MV y_Mod_judge := ⟨gw_t 813 (by decide +kernel) (by decide +kernel), gw_t 814 (by decide +kernel) (by decide +kernel)⟩
def y_Mod_ways : MethodName := ⟨"BrinePansModel", "ways", "(I)I"⟩
abbrev rm_Mod_ways : Room := { frames := 0, cells := 0, slots := 0, locals := 0 }
theorem mw_Mod_ways : MW y_Mod_ways prog_8_method_57_code 3 (some .int) 1 := ⟨gw_t 847 (by decide +kernel) (by decide +kernel), gw_t 7 (by decide +kernel) (by decide +kernel), (by decide +kernel)⟩
theorem ms_Mod_ways : MS y_Mod_ways := gw_t 846 (by decide +kernel) (by decide +kernel)
def y_Mod_divisor : MethodName := ⟨"BrinePansModel", "divisor", "(II)I"⟩
abbrev rm_Mod_divisor : Room := { frames := 0, cells := 0, slots := 0, locals := 0 }
theorem mw_Mod_divisor : MW y_Mod_divisor prog_8_method_58_code 5 (some .int) 2 := ⟨gw_t 853 (by decide +kernel) (by decide +kernel), gw_t 7 (by decide +kernel) (by decide +kernel), (by decide +kernel)⟩
theorem ms_Mod_divisor : MS y_Mod_divisor := gw_t 852 (by decide +kernel) (by decide +kernel)
def y_Mod_fraction : MethodName := ⟨"BrinePansModel", "fraction", "(IIZ)I"⟩
abbrev rm_Mod_fraction : Room := { frames := 1, cells := 0, slots := 0, locals := 24 }
theorem mw_Mod_fraction : MW y_Mod_fraction prog_8_method_59_code 4 (some .int) 3 := ⟨gw_t 850 (by decide +kernel) (by decide +kernel), gw_t 7 (by decide +kernel) (by decide +kernel), (by decide +kernel)⟩
theorem ms_Mod_fraction : MS y_Mod_fraction := gw_t 849 (by decide +kernel) (by decide +kernel)
def y_Mod_share : MethodName := ⟨"BrinePansModel", "share", "(IZ)I"⟩
abbrev rm_Mod_share : Room := { frames := 5, cells := 0, slots := 0, locals := 114 }
theorem mw_Mod_share : MW y_Mod_share prog_8_method_60_code 6 (some .int) 2 := ⟨gw_t 844 (by decide +kernel) (by decide +kernel), gw_t 7 (by decide +kernel) (by decide +kernel), (by decide +kernel)⟩
theorem mv_Mod_share : MV y_Mod_share := ⟨gw_t 842 (by decide +kernel) (by decide +kernel), gw_t 843 (by decide +kernel) (by decide +kernel)⟩
def y_Mod_find : MethodName := ⟨"BrinePansModel", "find", "(III)I"⟩
abbrev rm_Mod_find : Room := { frames := 1, cells := 0, slots := 0, locals := 25 }
theorem mw_Mod_find : MW y_Mod_find prog_8_method_61_code 4 (some .int) 3 := ⟨gw_t 857 (by decide +kernel) (by decide +kernel), gw_t 7 (by decide +kernel) (by decide +kernel), (by decide +kernel)⟩
theorem mv_Mod_find : MV y_Mod_find := ⟨gw_t 855 (by decide +kernel) (by decide +kernel), gw_t 856 (by decide +kernel) (by decide +kernel)⟩
def y_Mod_forget : MethodName := ⟨"BrinePansModel", "forget", "()I"⟩
abbrev rm_Mod_forget : Room := { frames := 0, cells := 0, slots := 0, locals := 0 }
theorem mw_Mod_forget : MW y_Mod_forget prog_8_method_62_code 2 (some .int) 0 := ⟨gw_t 862 (by decide +kernel) (by decide +kernel), gw_t 7 (by decide +kernel) (by decide +kernel), (by decide +kernel)⟩
theorem mv_Mod_forget : MV y_Mod_forget := ⟨gw_t 860 (by decide +kernel) (by decide +kernel), gw_t 861 (by decide +kernel) (by decide +kernel)⟩
def y_Mod_salts : MethodName := ⟨"BrinePansModel", "salts", "(I)I"⟩
abbrev rm_Mod_salts : Room := { frames := 1, cells := 0, slots := 0, locals := 25 }
theorem mw_Mod_salts : MW y_Mod_salts prog_8_method_63_code 6 (some .int) 1 := ⟨gw_t 866 (by decide +kernel) (by decide +kernel), gw_t 7 (by decide +kernel) (by decide +kernel), (by decide +kernel)⟩
theorem mv_Mod_salts : MV y_Mod_salts := ⟨gw_t 864 (by decide +kernel) (by decide +kernel), gw_t 865 (by decide +kernel) (by decide +kernel)⟩
def y_Mod_lay : MethodName := ⟨"BrinePansModel", "lay", "(II)V"⟩
abbrev rm_Mod_lay : Room := { frames := 0, cells := 0, slots := 0, locals := 0 }
theorem mw_Mod_lay : MW y_Mod_lay prog_8_method_64_code 3 none 2 := ⟨gw_t 874 (by decide +kernel) (by decide +kernel), gw_t 7 (by decide +kernel) (by decide +kernel), (by decide +kernel)⟩
theorem mv_Mod_lay : MV y_Mod_lay := ⟨gw_t 873 (by decide +kernel) (by decide +kernel), gw_s 71 (by decide +kernel) (by decide +kernel)⟩
def y_Mod_rests : MethodName := ⟨"BrinePansModel", "rests", "(III)I"⟩
abbrev rm_Mod_rests : Room := { frames := 5, cells := 0, slots := 0, locals := 114 }
theorem mw_Mod_rests : MW y_Mod_rests prog_8_method_65_code 6 (some .int) 3 := ⟨gw_t 870 (by decide +kernel) (by decide +kernel), gw_t 7 (by decide +kernel) (by decide +kernel), (by decide +kernel)⟩
theorem mv_Mod_rests : MV y_Mod_rests := ⟨gw_t 868 (by decide +kernel) (by decide +kernel), gw_t 869 (by decide +kernel) (by decide +kernel)⟩
def y_Mod_clouds : MethodName := ⟨"BrinePansModel", "clouds", "(IIIIZ)I"⟩
abbrev rm_Mod_clouds : Room := { frames := 4, cells := 0, slots := 0, locals := 91 }
theorem mw_Mod_clouds : MW y_Mod_clouds prog_8_method_66_code 9 (some .int) 5 := ⟨gw_t 878 (by decide +kernel) (by decide +kernel), gw_t 7 (by decide +kernel) (by decide +kernel), (by decide +kernel)⟩
theorem mv_Mod_clouds : MV y_Mod_clouds := ⟨gw_t 876 (by decide +kernel) (by decide +kernel), gw_t 877 (by decide +kernel) (by decide +kernel)⟩
def y_Mod_seed : MethodName := ⟨"BrinePansModel", "seed", "(J)J"⟩
abbrev rm_Mod_seed : Room := { frames := 0, cells := 0, slots := 0, locals := 0 }
theorem mw_Mod_seed : MW y_Mod_seed prog_8_method_67_code 5 (some .long) 1 := ⟨gw_t 887 (by decide +kernel) (by decide +kernel), gw_t 7 (by decide +kernel) (by decide +kernel), (by decide +kernel)⟩
theorem mv_Mod_seed : MV y_Mod_seed := ⟨gw_t 885 (by decide +kernel) (by decide +kernel), gw_t 886 (by decide +kernel) (by decide +kernel)⟩
def y_Mod_years : MethodName := ⟨"BrinePansModel", "years", "(I)I"⟩
abbrev rm_Mod_years : Room := { frames := 5, cells := 0, slots := 0, locals := 115 }
theorem mw_Mod_years : MW y_Mod_years prog_8_method_68_code 5 (some .int) 1 := ⟨gw_t 891 (by decide +kernel) (by decide +kernel), gw_t 7 (by decide +kernel) (by decide +kernel), (by decide +kernel)⟩
theorem mv_Mod_years : MV y_Mod_years := ⟨gw_t 889 (by decide +kernel) (by decide +kernel), gw_t 890 (by decide +kernel) (by decide +kernel)⟩
def y_Mod_keep : MethodName := ⟨"BrinePansModel", "keep", "(I)I"⟩
abbrev rm_Mod_keep : Room := { frames := 1, cells := 0, slots := 0, locals := 25 }
theorem mw_Mod_keep : MW y_Mod_keep prog_8_method_69_code 3 (some .int) 1 := ⟨gw_t 898 (by decide +kernel) (by decide +kernel), gw_t 7 (by decide +kernel) (by decide +kernel), (by decide +kernel)⟩
theorem mv_Mod_keep : MV y_Mod_keep := ⟨gw_t 896 (by decide +kernel) (by decide +kernel), gw_t 897 (by decide +kernel) (by decide +kernel)⟩
def y_Mod_again : MethodName := ⟨"BrinePansModel", "again", "(I)I"⟩
abbrev rm_Mod_again : Room := { frames := 1, cells := 0, slots := 0, locals := 25 }
theorem mw_Mod_again : MW y_Mod_again prog_8_method_70_code 3 (some .int) 1 := ⟨gw_t 902 (by decide +kernel) (by decide +kernel), gw_t 7 (by decide +kernel) (by decide +kernel), (by decide +kernel)⟩
theorem mv_Mod_again : MV y_Mod_again := ⟨gw_t 900 (by decide +kernel) (by decide +kernel), gw_t 901 (by decide +kernel) (by decide +kernel)⟩
theorem ml_Bri_68 : Cond.methodLinkNest "BrinePans" 68 y_Txt_append "BrinePans" ∈ nw := nw_t 169 (by decide +kernel) (by decide +kernel)
theorem ml_Bri_72 : Cond.methodLinkNest "BrinePans" 72 y_Txt_clear "BrinePans" ∈ nw := nw_t 177 (by decide +kernel) (by decide +kernel)
theorem ml_Bri_76 : Cond.methodLinkNest "BrinePans" 76 y_Txt_firstFault "BrinePans" ∈ nw := nw_t 185 (by decide +kernel) (by decide +kernel)
theorem ml_Bri_79 : Cond.methodLinkNest "BrinePans" 79 y_Txt_layOut "BrinePans" ∈ nw := nw_t 202 (by decide +kernel) (by decide +kernel)
theorem ml_Bri_83 : Cond.methodLinkNest "BrinePans" 83 y_Act_clear "BrinePans" ∈ nw := nw_t 234 (by decide +kernel) (by decide +kernel)
theorem ml_Bri_95 : Cond.methodLinkNest "BrinePans" 95 y_Gro_skyOf "BrinePans" ∈ nw := nw_t 242 (by decide +kernel) (by decide +kernel)
theorem ml_Bri_107 : Cond.methodLinkNest "BrinePans" 107 y_Pan_sumOf "BrinePans" ∈ nw := nw_t 246 (by decide +kernel) (by decide +kernel)
theorem ml_Bri_114 : Cond.methodLinkNest "BrinePans" 114 y_Pan_crustOfAll "BrinePans" ∈ nw := nw_t 250 (by decide +kernel) (by decide +kernel)
theorem ml_Bri_117 : Cond.methodLinkNest "BrinePans" 117 y_Pan_rakeable "BrinePans" ∈ nw := nw_t 262 (by decide +kernel) (by decide +kernel)
theorem ml_Bri_127 : Cond.methodLinkNest "BrinePans" 127 y_Gro_hasPan "BrinePans" ∈ nw := nw_t 274 (by decide +kernel) (by decide +kernel)
theorem ml_Bri_134 : Cond.methodLinkNest "BrinePans" 134 y_Pan_brineOf "BrinePans" ∈ nw := nw_t 275 (by decide +kernel) (by decide +kernel)
theorem ml_Bri_137 : Cond.methodLinkNest "BrinePans" 137 y_Pan_crustOf "BrinePans" ∈ nw := nw_t 276 (by decide +kernel) (by decide +kernel)
theorem ml_Bri_140 : Cond.methodLinkNest "BrinePans" 140 y_Pan_roomOf "BrinePans" ∈ nw := nw_t 277 (by decide +kernel) (by decide +kernel)
theorem ml_Bri_143 : Cond.methodLink "BrinePans" 143 y_Bri_fromNow ∈ gw := gw_t 289 (by decide +kernel) (by decide +kernel)
theorem ml_Bri_147 : Cond.methodLinkNest "BrinePans" 147 y_Pan_passDay "BrinePans" ∈ nw := nw_t 297 (by decide +kernel) (by decide +kernel)
theorem ml_Bri_151 : Cond.methodLink "BrinePans" 151 y_Bri_settle ∈ gw := gw_t 343 (by decide +kernel) (by decide +kernel)
theorem ml_Bri_154 : Cond.methodLinkNest "BrinePans" 154 y_Pan_takeSea "BrinePans" ∈ nw := nw_t 357 (by decide +kernel) (by decide +kernel)
theorem ml_Bri_157 : Cond.methodLinkNest "BrinePans" 157 y_Pan_letOn "BrinePans" ∈ nw := nw_t 365 (by decide +kernel) (by decide +kernel)
theorem ml_Bri_161 : Cond.methodLinkNest "BrinePans" 161 y_Pan_turnGate "BrinePans" ∈ nw := nw_t 370 (by decide +kernel) (by decide +kernel)
theorem ml_Bri_164 : Cond.methodLinkNest "BrinePans" 164 y_Pan_rakeUp "BrinePans" ∈ nw := nw_t 382 (by decide +kernel) (by decide +kernel)
theorem ml_Bri_167 : Cond.methodLinkNest "BrinePans" 167 y_Act_takeBack "BrinePans" ∈ nw := nw_t 390 (by decide +kernel) (by decide +kernel)
theorem ml_Bri_171 : Cond.methodLink "BrinePans" 171 y_Bri_isFromTo ∈ gw := gw_t 398 (by decide +kernel) (by decide +kernel)
theorem ml_Bri_175 : Cond.methodLinkNest "BrinePans" 175 y_Pan_passDays "BrinePans" ∈ nw := nw_t 399 (by decide +kernel) (by decide +kernel)
theorem ml_Bri_179 : Cond.methodLinkNest "BrinePans" 179 y_Pan_crustBehind "BrinePans" ∈ nw := nw_t 408 (by decide +kernel) (by decide +kernel)
theorem ml_Bri_182 : Cond.methodLinkNest "BrinePans" 182 y_Pan_canRake "BrinePans" ∈ nw := nw_t 418 (by decide +kernel) (by decide +kernel)
theorem ml_Bri_185 : Cond.methodLinkNest "BrinePans" 185 y_Gro_gateCount "BrinePans" ∈ nw := nw_t 423 (by decide +kernel) (by decide +kernel)
theorem ml_Bri_188 : Cond.methodLink "BrinePans" 188 y_Int_bitCount ∈ gw := gw_t 428 (by decide +kernel) (by decide +kernel)
theorem ml_Bri_201 : Cond.methodLinkNest "BrinePans" 201 y_Pan_isDone "BrinePans" ∈ nw := nw_t 442 (by decide +kernel) (by decide +kernel)
theorem ml_Bri_204 : Cond.methodLinkNest "BrinePans" 204 y_Pan_emptyAllBut "BrinePans" ∈ nw := nw_t 453 (by decide +kernel) (by decide +kernel)
theorem ml_Bri_207 : Cond.methodLink "BrinePans" 207 y_Bri_orders ∈ gw := gw_t 454 (by decide +kernel) (by decide +kernel)
theorem ml_Bri_210 : Cond.methodLink "BrinePans" 210 y_Bri_told ∈ gw := gw_t 459 (by decide +kernel) (by decide +kernel)
theorem ml_Bri_214 : Cond.methodLinkNest "BrinePans" 214 y_Fin_add "BrinePans" ∈ nw := nw_t 472 (by decide +kernel) (by decide +kernel)
theorem ml_Bri_218 : Cond.methodLinkNest "BrinePans" 218 y_Fin_clear "BrinePans" ∈ nw := nw_t 480 (by decide +kernel) (by decide +kernel)
theorem ml_Bri_219 : Cond.methodLinkNest "BrinePans" 219 y_Fin_allow "BrinePans" ∈ nw := nw_t 488 (by decide +kernel) (by decide +kernel)
theorem ml_Bri_222 : Cond.methodLinkNest "BrinePans" 222 y_Gro_hasGate "BrinePans" ∈ nw := nw_t 497 (by decide +kernel) (by decide +kernel)
theorem ml_Bri_225 : Cond.methodLink "BrinePans" 225 y_Bri_weigh ∈ gw := gw_t 498 (by decide +kernel) (by decide +kernel)
theorem ml_Bri_229 : Cond.methodLink "BrinePans" 229 y_Bri_isAtRest ∈ gw := gw_t 503 (by decide +kernel) (by decide +kernel)
theorem ml_Bri_238 : Cond.methodLinkNest "BrinePans" 238 y_Pan_befall "BrinePans" ∈ nw := nw_t 522 (by decide +kernel) (by decide +kernel)
theorem ml_Bri_241 : Cond.methodLinkNest "BrinePans" 241 y_Pan_copy "BrinePans" ∈ nw := nw_t 293 (by decide +kernel) (by decide +kernel)
theorem ml_Bri_245 : Cond.methodLinkNest "BrinePans" 245 y_Act_add "BrinePans" ∈ nw := nw_t 347 (by decide +kernel) (by decide +kernel)
theorem ml_Bri_247 : Cond.methodLinkNest "BrinePans" 247 y_Pan_setGate "BrinePans" ∈ nw := nw_t 502 (by decide +kernel) (by decide +kernel)
theorem ml_Bri_259 : Cond.methodLink "BrinePans" 259 y_Bri_commonMeasure ∈ gw := gw_t 465 (by decide +kernel) (by decide +kernel)
theorem ml_Act_27 : Cond.methodLinkNest "BrinePans$Acts" 27 y_Pan_copy "BrinePans" ∈ nw := nw_t 351 (by decide +kernel) (by decide +kernel)
theorem ml_Gro_25 : Cond.methodLink "BrinePans$Ground" 25 y_Gro_gateCount ∈ gw := gw_t 317 (by decide +kernel) (by decide +kernel)
theorem ml_Pan_32 : Cond.methodLink "BrinePans$Pans" 32 y_Pan_emptyAllBut ∈ gw := gw_t 214 (by decide +kernel) (by decide +kernel)
theorem ml_Pan_36 : Cond.methodLinkNest "BrinePans$Pans" 36 y_Gro_hasPan "BrinePans" ∈ nw := nw_t 226 (by decide +kernel) (by decide +kernel)
theorem ml_Pan_42 : Cond.methodLink "BrinePans$Pans" 42 y_Pan_brineOf ∈ gw := gw_t 258 (by decide +kernel) (by decide +kernel)
theorem ml_Pan_46 : Cond.methodLinkNest "BrinePans$Pans" 46 y_Gro_depthOf "BrinePans" ∈ nw := nw_t 281 (by decide +kernel) (by decide +kernel)
theorem ml_Pan_52 : Cond.methodLink "BrinePans$Pans" 52 y_Pan_crustOf ∈ gw := gw_t 254 (by decide +kernel) (by decide +kernel)
theorem ml_Pan_55 : Cond.methodLink "BrinePans$Pans" 55 y_Pan_canRake ∈ gw := gw_t 266 (by decide +kernel) (by decide +kernel)
theorem ml_Pan_58 : Cond.methodLink "BrinePans$Pans" 58 y_Pan_isOpen ∈ gw := gw_t 305 (by decide +kernel) (by decide +kernel)
theorem ml_Pan_67 : Cond.methodLinkNest "BrinePans$Pans" 67 y_Bri_isFromTo "BrinePans" ∈ nw := nw_t 318 (by decide +kernel) (by decide +kernel)
theorem ml_Pan_71 : Cond.methodLink "BrinePans$Pans" 71 y_Pan_roomOf ∈ gw := gw_t 319 (by decide +kernel) (by decide +kernel)
theorem ml_Pan_74 : Cond.methodLink "BrinePans$Pans" 74 y_Pan_fill ∈ gw := gw_t 324 (by decide +kernel) (by decide +kernel)
theorem ml_Pan_78 : Cond.methodLinkNest "BrinePans$Pans" 78 y_Gro_hasGate "BrinePans" ∈ nw := nw_t 313 (by decide +kernel) (by decide +kernel)
theorem ml_Pan_81 : Cond.methodLink "BrinePans$Pans" 81 y_Pan_drain ∈ gw := gw_t 320 (by decide +kernel) (by decide +kernel)
theorem ml_Pan_84 : Cond.methodLink "BrinePans$Pans" 84 y_Pan_setGate ∈ gw := gw_t 374 (by decide +kernel) (by decide +kernel)
theorem ml_Pan_88 : Cond.methodLinkNest "BrinePans$Pans" 88 y_Gro_gateCount "BrinePans" ∈ nw := nw_t 301 (by decide +kernel) (by decide +kernel)
theorem ml_Pan_92 : Cond.methodLink "BrinePans$Pans" 92 y_Pan_letOn ∈ gw := gw_t 309 (by decide +kernel) (by decide +kernel)
theorem ml_Pan_98 : Cond.methodLinkNest "BrinePans$Pans" 98 y_Gro_skyOf "BrinePans" ∈ nw := nw_t 331 (by decide +kernel) (by decide +kernel)
theorem ml_Pan_101 : Cond.methodLink "BrinePans$Pans" 101 y_Pan_rain ∈ gw := gw_t 332 (by decide +kernel) (by decide +kernel)
theorem ml_Pan_104 : Cond.methodLink "BrinePans$Pans" 104 y_Pan_shine ∈ gw := gw_t 336 (by decide +kernel) (by decide +kernel)
theorem ml_Pan_110 : Cond.methodLink "BrinePans$Pans" 110 y_Pan_passDay ∈ gw := gw_t 403 (by decide +kernel) (by decide +kernel)
theorem ml_Pan_114 : Cond.methodLink "BrinePans$Pans" 114 y_Pan_passDays ∈ gw := gw_t 412 (by decide +kernel) (by decide +kernel)
theorem ml_Pan_117 : Cond.methodLink "BrinePans$Pans" 117 y_Pan_crustOfAll ∈ gw := gw_t 413 (by decide +kernel) (by decide +kernel)
theorem ml_Pan_120 : Cond.methodLink "BrinePans$Pans" 120 y_Pan_takeSea ∈ gw := gw_t 446 (by decide +kernel) (by decide +kernel)
theorem ml_Pan_123 : Cond.methodLink "BrinePans$Pans" 123 y_Pan_turnGate ∈ gw := gw_t 447 (by decide +kernel) (by decide +kernel)
theorem ml_Pan_126 : Cond.methodLink "BrinePans$Pans" 126 y_Pan_rakeUp ∈ gw := gw_t 448 (by decide +kernel) (by decide +kernel)
theorem ml_Txt_19 : Cond.methodLink "BrinePans$Text" 19 y_Txt_stepBehind ∈ gw := gw_t 189 (by decide +kernel) (by decide +kernel)
theorem ml_Txt_23 : Cond.methodLink "BrinePans$Text" 23 y_Txt_stepIntoThing ∈ gw := gw_t 192 (by decide +kernel) (by decide +kernel)
theorem ml_Txt_27 : Cond.methodLinkNest "BrinePans$Text" 27 y_Bri_isFromTo "BrinePans" ∈ nw := nw_t 195 (by decide +kernel) (by decide +kernel)
theorem ml_Txt_31 : Cond.methodLinkNest "BrinePans$Text" 31 y_Gro_clear "BrinePans" ∈ nw := nw_t 206 (by decide +kernel) (by decide +kernel)
theorem ml_Txt_36 : Cond.methodLinkNest "BrinePans$Text" 36 y_Pan_clear "BrinePans" ∈ nw := nw_t 210 (by decide +kernel) (by decide +kernel)
theorem ml_Txt_39 : Cond.methodLinkNest "BrinePans$Text" 39 y_Gro_addPan "BrinePans" ∈ nw := nw_t 218 (by decide +kernel) (by decide +kernel)
theorem ml_Txt_49 : Cond.methodLinkNest "BrinePans$Text" 49 y_Pan_lay "BrinePans" ∈ nw := nw_t 222 (by decide +kernel) (by decide +kernel)
theorem ml_Txt_56 : Cond.methodLinkNest "BrinePans$Text" 56 y_Gro_addSky "BrinePans" ∈ nw := nw_t 230 (by decide +kernel) (by decide +kernel)
theorem ml_Mod_63 : Cond.methodLink "BrinePansModel" 63 y_Mod_in ∈ gw := gw_t 639 (by decide +kernel) (by decide +kernel)
theorem ml_Mod_75 : Cond.methodLink "BrinePansModel" 75 y_Mod_figure ∈ gw := gw_t 662 (by decide +kernel) (by decide +kernel)
theorem ml_Mod_85 : Cond.methodLink "BrinePansModel" 85 y_Mod_readOnePan ∈ gw := gw_t 658 (by decide +kernel) (by decide +kernel)
theorem ml_Mod_89 : Cond.methodLink "BrinePansModel" 89 y_Mod_readOneSky ∈ gw := gw_t 666 (by decide +kernel) (by decide +kernel)
theorem ml_Mod_93 : Cond.methodLink "BrinePansModel" 93 y_Mod_readThing ∈ gw := gw_t 654 (by decide +kernel) (by decide +kernel)
theorem ml_Mod_96 : Cond.methodLink "BrinePansModel" 96 y_Mod_readMarsh ∈ gw := gw_t 650 (by decide +kernel) (by decide +kernel)
theorem ml_Mod_106 : Cond.methodLink "BrinePansModel" 106 y_Mod_brine ∈ gw := gw_t 693 (by decide +kernel) (by decide +kernel)
theorem ml_Mod_110 : Cond.methodLink "BrinePansModel" 110 y_Mod_crustOf ∈ gw := gw_t 690 (by decide +kernel) (by decide +kernel)
theorem ml_Mod_113 : Cond.methodLink "BrinePansModel" 113 y_Mod_flow ∈ gw := gw_t 733 (by decide +kernel) (by decide +kernel)
theorem ml_Mod_117 : Cond.methodLink "BrinePansModel" 117 y_Mod_salted ∈ gw := gw_t 736 (by decide +kernel) (by decide +kernel)
theorem ml_Mod_121 : Cond.methodLink "BrinePansModel" 121 y_Mod_room ∈ gw := gw_t 711 (by decide +kernel) (by decide +kernel)
theorem ml_Mod_124 : Cond.methodLink "BrinePansModel" 124 y_Mod_has ∈ gw := gw_t 727 (by decide +kernel) (by decide +kernel)
theorem ml_Mod_128 : Cond.methodLink "BrinePansModel" 128 y_Mod_goLet ∈ gw := gw_t 730 (by decide +kernel) (by decide +kernel)
theorem ml_Mod_131 : Cond.methodLink "BrinePansModel" 131 y_Mod_skyOf ∈ gw := gw_t 678 (by decide +kernel) (by decide +kernel)
theorem ml_Mod_135 : Cond.methodLink "BrinePansModel" 135 y_Mod_weather ∈ gw := gw_t 739 (by decide +kernel) (by decide +kernel)
theorem ml_Mod_138 : Cond.methodLink "BrinePansModel" 138 y_Mod_goDay ∈ gw := gw_t 723 (by decide +kernel) (by decide +kernel)
theorem ml_Mod_142 : Cond.methodLink "BrinePansModel" 142 y_Mod_canRake ∈ gw := gw_t 700 (by decide +kernel) (by decide +kernel)
theorem ml_Mod_146 : Cond.methodLink "BrinePansModel" 146 y_Mod_sumFrom ∈ gw := gw_t 682 (by decide +kernel) (by decide +kernel)
theorem ml_Mod_150 : Cond.methodLink "BrinePansModel" 150 y_Mod_crustOfAll ∈ gw := gw_t 686 (by decide +kernel) (by decide +kernel)
theorem ml_Mod_153 : Cond.methodLink "BrinePansModel" 153 y_Mod_ripeOnes ∈ gw := gw_t 696 (by decide +kernel) (by decide +kernel)
theorem ml_Mod_159 : Cond.methodLink "BrinePansModel" 159 y_Mod_noPan ∈ gw := gw_t 707 (by decide +kernel) (by decide +kernel)
theorem ml_Mod_163 : Cond.methodLink "BrinePansModel" 163 y_Mod_note ∈ gw := gw_t 719 (by decide +kernel) (by decide +kernel)
theorem ml_Mod_168 : Cond.methodLink "BrinePansModel" 168 y_Mod_goSea ∈ gw := gw_t 748 (by decide +kernel) (by decide +kernel)
theorem ml_Mod_172 : Cond.methodLink "BrinePansModel" 172 y_Mod_noGate ∈ gw := gw_t 755 (by decide +kernel) (by decide +kernel)
theorem ml_Mod_175 : Cond.methodLink "BrinePansModel" 175 y_Mod_goRake ∈ gw := gw_t 767 (by decide +kernel) (by decide +kernel)
theorem ml_Mod_182 : Cond.methodLink "BrinePansModel" 182 y_Mod_begin ∈ gw := gw_t 780 (by decide +kernel) (by decide +kernel)
theorem ml_Mod_185 : Cond.methodLink "BrinePansModel" 185 y_Mod_goDays ∈ gw := gw_t 784 (by decide +kernel) (by decide +kernel)
theorem ml_Mod_194 : Cond.methodLink "BrinePansModel" 194 y_Mod_findBest ∈ gw := gw_t 800 (by decide +kernel) (by decide +kernel)
theorem ml_Mod_200 : Cond.methodLink "BrinePansModel" 200 y_Mod_many ∈ gw := gw_t 809 (by decide +kernel) (by decide +kernel)
theorem ml_Mod_203 : Cond.methodLink "BrinePansModel" 203 y_Mod_seas ∈ gw := gw_t 825 (by decide +kernel) (by decide +kernel)
theorem ml_Mod_206 : Cond.methodLink "BrinePansModel" 206 y_Mod_lets ∈ gw := gw_t 829 (by decide +kernel) (by decide +kernel)
theorem ml_Mod_209 : Cond.methodLink "BrinePansModel" 209 y_Mod_turns ∈ gw := gw_t 833 (by decide +kernel) (by decide +kernel)
theorem ml_Mod_212 : Cond.methodLink "BrinePansModel" 212 y_Mod_rakes ∈ gw := gw_t 837 (by decide +kernel) (by decide +kernel)
theorem ml_Mod_219 : Cond.methodLink "BrinePansModel" 219 y_Mod_longPower ∈ gw := gw_t 818 (by decide +kernel) (by decide +kernel)
theorem ml_Mod_223 : Cond.methodLink "BrinePansModel" 223 y_Mod_does ∈ gw := gw_t 821 (by decide +kernel) (by decide +kernel)
theorem ml_Mod_226 : Cond.methodLink "BrinePansModel" 226 y_Mod_divisor ∈ gw := gw_t 851 (by decide +kernel) (by decide +kernel)
theorem ml_Mod_229 : Cond.methodLink "BrinePansModel" 229 y_Mod_ways ∈ gw := gw_t 845 (by decide +kernel) (by decide +kernel)
theorem ml_Mod_232 : Cond.methodLink "BrinePansModel" 232 y_Mod_fraction ∈ gw := gw_t 848 (by decide +kernel) (by decide +kernel)
theorem ml_Mod_244 : Cond.methodLink "BrinePansModel" 244 y_Mod_lay ∈ gw := gw_t 871 (by decide +kernel) (by decide +kernel)
theorem ml_Mod_258 : Cond.methodLink "BrinePansModel" 258 y_Mod_power ∈ gw := gw_t 881 (by decide +kernel) (by decide +kernel)
theorem uw_Act : ∀ w ∈ u_ws cAct tAct 3, w ∈ gw := by
  intro w hw
  obtain ⟨k, hk, rfl⟩ := List.mem_map.mp hw
  have hk2 : k < 3 := List.mem_range.mp hk
  rcases (show k = 0 ∨ k = 1 ∨ k = 2 by omega) with rfl | rfl | rfl
  · exact gw_t 103 (by decide +kernel) (by decide +kernel)
  · exact gw_t 105 (by decide +kernel) (by decide +kernel)
  · exact gw_t 107 (by decide +kernel) (by decide +kernel)
theorem ut_Act : ∀ k, k < 3 → parseFieldDescriptor (tAct k).2.2.1 = some (yAct k) := by decide +kernel
theorem un_Act : ∀ a, a < 3 → ∀ b, b < 3 → a ≠ b → (tAct a).2.1 ≠ (tAct b).2.1 := by decide +kernel
theorem uw_Fin : ∀ w ∈ u_ws cFin tFin 4, w ∈ gw := by
  intro w hw
  obtain ⟨k, hk, rfl⟩ := List.mem_map.mp hw
  have hk2 : k < 4 := List.mem_range.mp hk
  rcases (show k = 0 ∨ k = 1 ∨ k = 2 ∨ k = 3 by omega) with rfl | rfl | rfl | rfl
  · exact gw_t 121 (by decide +kernel) (by decide +kernel)
  · exact gw_t 123 (by decide +kernel) (by decide +kernel)
  · exact gw_t 125 (by decide +kernel) (by decide +kernel)
  · exact gw_t 127 (by decide +kernel) (by decide +kernel)
theorem ut_Fin : ∀ k, k < 4 → parseFieldDescriptor (tFin k).2.2.1 = some (yFin k) := by decide +kernel
theorem un_Fin : ∀ a, a < 4 → ∀ b, b < 4 → a ≠ b → (tFin a).2.1 ≠ (tFin b).2.1 := by decide +kernel
theorem uw_Gro : ∀ w ∈ u_ws cGro tGro 4, w ∈ gw := by
  intro w hw
  obtain ⟨k, hk, rfl⟩ := List.mem_map.mp hw
  have hk2 : k < 4 := List.mem_range.mp hk
  rcases (show k = 0 ∨ k = 1 ∨ k = 2 ∨ k = 3 by omega) with rfl | rfl | rfl | rfl
  · exact gw_t 49 (by decide +kernel) (by decide +kernel)
  · exact gw_t 51 (by decide +kernel) (by decide +kernel)
  · exact gw_t 53 (by decide +kernel) (by decide +kernel)
  · exact gw_t 55 (by decide +kernel) (by decide +kernel)
theorem ut_Gro : ∀ k, k < 4 → parseFieldDescriptor (tGro k).2.2.1 = some (yGro k) := by decide +kernel
theorem un_Gro : ∀ a, a < 4 → ∀ b, b < 4 → a ≠ b → (tGro a).2.1 ≠ (tGro b).2.1 := by decide +kernel
theorem uw_Pan : ∀ w ∈ u_ws cPan tPan 6, w ∈ gw := by
  intro w hw
  obtain ⟨k, hk, rfl⟩ := List.mem_map.mp hw
  have hk2 : k < 6 := List.mem_range.mp hk
  rcases (show k = 0 ∨ k = 1 ∨ k = 2 ∨ k = 3 ∨ k = 4 ∨ k = 5 by omega) with rfl | rfl | rfl | rfl | rfl | rfl
  · exact gw_t 77 (by decide +kernel) (by decide +kernel)
  · exact gw_t 79 (by decide +kernel) (by decide +kernel)
  · exact gw_t 81 (by decide +kernel) (by decide +kernel)
  · exact gw_t 83 (by decide +kernel) (by decide +kernel)
  · exact gw_t 85 (by decide +kernel) (by decide +kernel)
  · exact gw_t 87 (by decide +kernel) (by decide +kernel)
theorem ut_Pan : ∀ k, k < 6 → parseFieldDescriptor (tPan k).2.2.1 = some (yPan k) := by decide +kernel
theorem un_Pan : ∀ a, a < 6 → ∀ b, b < 6 → a ≠ b → (tPan a).2.1 ≠ (tPan b).2.1 := by decide +kernel
theorem uw_Txt : ∀ w ∈ u_ws cTxt tTxt 2, w ∈ gw := by
  intro w hw
  obtain ⟨k, hk, rfl⟩ := List.mem_map.mp hw
  have hk2 : k < 2 := List.mem_range.mp hk
  rcases (show k = 0 ∨ k = 1 by omega) with rfl | rfl
  · exact gw_t 27 (by decide +kernel) (by decide +kernel)
  · exact gw_t 29 (by decide +kernel) (by decide +kernel)
theorem ut_Txt : ∀ k, k < 2 → parseFieldDescriptor (tTxt k).2.2.1 = some (yTxt k) := by decide +kernel
theorem un_Txt : ∀ a, a < 2 → ∀ b, b < 2 → a ≠ b → (tTxt a).2.1 ≠ (tTxt b).2.1 := by decide +kernel
theorem uw_Bri : ∀ w ∈ u_ws cBri tBri 11, w ∈ gw := by
  intro w hw
  obtain ⟨k, hk, rfl⟩ := List.mem_map.mp hw
  have hk2 : k < 11 := List.mem_range.mp hk
  rcases (show k = 0 ∨ k = 1 ∨ k = 2 ∨ k = 3 ∨ k = 4 ∨ k = 5 ∨ k = 6 ∨ k = 7 ∨ k = 8 ∨ k = 9 ∨ k = 10 by omega) with rfl | rfl | rfl | rfl | rfl | rfl | rfl | rfl | rfl | rfl | rfl
  · exact gw_t 142 (by decide +kernel) (by decide +kernel)
  · exact gw_t 144 (by decide +kernel) (by decide +kernel)
  · exact gw_t 146 (by decide +kernel) (by decide +kernel)
  · exact gw_t 148 (by decide +kernel) (by decide +kernel)
  · exact gw_t 150 (by decide +kernel) (by decide +kernel)
  · exact gw_t 152 (by decide +kernel) (by decide +kernel)
  · exact gw_t 154 (by decide +kernel) (by decide +kernel)
  · exact gw_t 156 (by decide +kernel) (by decide +kernel)
  · exact gw_t 158 (by decide +kernel) (by decide +kernel)
  · exact gw_t 160 (by decide +kernel) (by decide +kernel)
  · exact gw_t 162 (by decide +kernel) (by decide +kernel)
theorem ut_Bri : ∀ k, k < 11 → parseFieldDescriptor (tBri k).2.2.1 = some (yBri k) := by decide +kernel
theorem un_Bri : ∀ a, a < 11 → ∀ b, b < 11 → a ≠ b → (tBri a).2.1 ≠ (tBri b).2.1 := by decide +kernel
theorem uw_Mod : ∀ w ∈ u_ws cMod tMod 31, w ∈ gw := by
  intro w hw
  obtain ⟨k, hk, rfl⟩ := List.mem_map.mp hw
  have hk2 : k < 31 := List.mem_range.mp hk
  rcases (show k = 0 ∨ k = 1 ∨ k = 2 ∨ k = 3 ∨ k = 4 ∨ k = 5 ∨ k = 6 ∨ k = 7 ∨ k = 8 ∨ k = 9 ∨ k = 10 ∨ k = 11 ∨ k = 12 ∨ k = 13 ∨ k = 14 ∨ k = 15 ∨ k = 16 ∨ k = 17 ∨ k = 18 ∨ k = 19 ∨ k = 20 ∨ k = 21 ∨ k = 22 ∨ k = 23 ∨ k = 24 ∨ k = 25 ∨ k = 26 ∨ k = 27 ∨ k = 28 ∨ k = 29 ∨ k = 30 by omega) with rfl | rfl | rfl | rfl | rfl | rfl | rfl | rfl | rfl | rfl | rfl | rfl | rfl | rfl | rfl | rfl | rfl | rfl | rfl | rfl | rfl | rfl | rfl | rfl | rfl | rfl | rfl | rfl | rfl | rfl | rfl
  · exact gw_t 571 (by decide +kernel) (by decide +kernel)
  · exact gw_t 573 (by decide +kernel) (by decide +kernel)
  · exact gw_t 575 (by decide +kernel) (by decide +kernel)
  · exact gw_t 577 (by decide +kernel) (by decide +kernel)
  · exact gw_t 579 (by decide +kernel) (by decide +kernel)
  · exact gw_t 581 (by decide +kernel) (by decide +kernel)
  · exact gw_t 583 (by decide +kernel) (by decide +kernel)
  · exact gw_t 585 (by decide +kernel) (by decide +kernel)
  · exact gw_t 587 (by decide +kernel) (by decide +kernel)
  · exact gw_t 589 (by decide +kernel) (by decide +kernel)
  · exact gw_t 591 (by decide +kernel) (by decide +kernel)
  · exact gw_t 593 (by decide +kernel) (by decide +kernel)
  · exact gw_t 595 (by decide +kernel) (by decide +kernel)
  · exact gw_t 597 (by decide +kernel) (by decide +kernel)
  · exact gw_t 599 (by decide +kernel) (by decide +kernel)
  · exact gw_t 601 (by decide +kernel) (by decide +kernel)
  · exact gw_t 603 (by decide +kernel) (by decide +kernel)
  · exact gw_t 605 (by decide +kernel) (by decide +kernel)
  · exact gw_t 607 (by decide +kernel) (by decide +kernel)
  · exact gw_t 609 (by decide +kernel) (by decide +kernel)
  · exact gw_t 611 (by decide +kernel) (by decide +kernel)
  · exact gw_t 613 (by decide +kernel) (by decide +kernel)
  · exact gw_t 615 (by decide +kernel) (by decide +kernel)
  · exact gw_t 617 (by decide +kernel) (by decide +kernel)
  · exact gw_t 619 (by decide +kernel) (by decide +kernel)
  · exact gw_t 621 (by decide +kernel) (by decide +kernel)
  · exact gw_t 623 (by decide +kernel) (by decide +kernel)
  · exact gw_t 625 (by decide +kernel) (by decide +kernel)
  · exact gw_t 627 (by decide +kernel) (by decide +kernel)
  · exact gw_t 629 (by decide +kernel) (by decide +kernel)
  · exact gw_t 631 (by decide +kernel) (by decide +kernel)
theorem ut_Mod : ∀ k, k < 31 → parseFieldDescriptor (tMod k).2.2.1 = some (yMod k) := by decide +kernel
theorem un_Mod : ∀ a, a < 31 → ∀ b, b < 31 → a ≠ b → (tMod a).2.1 ≠ (tMod b).2.1 := by decide +kernel
theorem fk_Bri_10 : FK "BrinePans" 10 5 0 := ⟨cBri, tBri, 11, yBri, rfl, uw_Bri, ut_Bri, un_Bri, by decide, rfl, Or.inl (gw_t 131 (by decide +kernel) (by decide +kernel))⟩
theorem fk_Bri_19 : FK "BrinePans" 19 5 1 := ⟨cBri, tBri, 11, yBri, rfl, uw_Bri, ut_Bri, un_Bri, by decide, rfl, Or.inl (gw_t 132 (by decide +kernel) (by decide +kernel))⟩
theorem fk_Bri_28 : FK "BrinePans" 28 5 2 := ⟨cBri, tBri, 11, yBri, rfl, uw_Bri, ut_Bri, un_Bri, by decide, rfl, Or.inl (gw_t 133 (by decide +kernel) (by decide +kernel))⟩
theorem fk_Bri_32 : FK "BrinePans" 32 5 3 := ⟨cBri, tBri, 11, yBri, rfl, uw_Bri, ut_Bri, un_Bri, by decide, rfl, Or.inl (gw_t 134 (by decide +kernel) (by decide +kernel))⟩
theorem fk_Bri_38 : FK "BrinePans" 38 5 4 := ⟨cBri, tBri, 11, yBri, rfl, uw_Bri, ut_Bri, un_Bri, by decide, rfl, Or.inl (gw_t 135 (by decide +kernel) (by decide +kernel))⟩
theorem fk_Bri_45 : FK "BrinePans" 45 5 5 := ⟨cBri, tBri, 11, yBri, rfl, uw_Bri, ut_Bri, un_Bri, by decide, rfl, Or.inl (gw_t 136 (by decide +kernel) (by decide +kernel))⟩
theorem fk_Bri_49 : FK "BrinePans" 49 5 6 := ⟨cBri, tBri, 11, yBri, rfl, uw_Bri, ut_Bri, un_Bri, by decide, rfl, Or.inl (gw_t 137 (by decide +kernel) (by decide +kernel))⟩
theorem fk_Bri_53 : FK "BrinePans" 53 5 7 := ⟨cBri, tBri, 11, yBri, rfl, uw_Bri, ut_Bri, un_Bri, by decide, rfl, Or.inl (gw_t 138 (by decide +kernel) (by decide +kernel))⟩
theorem fk_Bri_57 : FK "BrinePans" 57 5 8 := ⟨cBri, tBri, 11, yBri, rfl, uw_Bri, ut_Bri, un_Bri, by decide, rfl, Or.inl (gw_t 139 (by decide +kernel) (by decide +kernel))⟩
theorem fk_Bri_61 : FK "BrinePans" 61 5 9 := ⟨cBri, tBri, 11, yBri, rfl, uw_Bri, ut_Bri, un_Bri, by decide, rfl, Or.inl (gw_t 140 (by decide +kernel) (by decide +kernel))⟩
theorem fk_Bri_64 : FK "BrinePans" 64 5 10 := ⟨cBri, tBri, 11, yBri, rfl, uw_Bri, ut_Bri, un_Bri, by decide, rfl, Or.inl (gw_t 141 (by decide +kernel) (by decide +kernel))⟩
theorem fp_Bri_64 : FP "BrinePans" 64 5 10 .long := ⟨fk_Bri_64, fun q h => by cases h; exact ⟨rfl, (by decide +kernel)⟩⟩
theorem fk_Bri_85 : FK "BrinePans" 85 2 2 := ⟨cGro, tGro, 4, yGro, rfl, uw_Gro, ut_Gro, un_Gro, by decide, rfl, Or.inr ⟨"BrinePans", nw_t 44 (by decide +kernel) (by decide +kernel)⟩⟩
theorem fp_Bri_85 : FP "BrinePans" 85 2 2 .int := ⟨fk_Bri_85, fun q h => by cases h; exact ⟨rfl, (by decide +kernel)⟩⟩
theorem fk_Bri_89 : FK "BrinePans" 89 2 3 := ⟨cGro, tGro, 4, yGro, rfl, uw_Gro, ut_Gro, un_Gro, by decide, rfl, Or.inr ⟨"BrinePans", nw_t 48 (by decide +kernel) (by decide +kernel)⟩⟩
theorem fp_Bri_89 : FP "BrinePans" 89 2 3 .int := ⟨fk_Bri_89, fun q h => by cases h; exact ⟨rfl, (by decide +kernel)⟩⟩
theorem fk_Bri_92 : FK "BrinePans" 92 3 5 := ⟨cPan, tPan, 6, yPan, rfl, uw_Pan, ut_Pan, un_Pan, by decide, rfl, Or.inr ⟨"BrinePans", nw_t 76 (by decide +kernel) (by decide +kernel)⟩⟩
theorem fp_Bri_92 : FP "BrinePans" 92 3 5 .int := ⟨fk_Bri_92, fun q h => by cases h; exact ⟨rfl, (by decide +kernel)⟩⟩
theorem fk_Bri_98 : FK "BrinePans" 98 3 3 := ⟨cPan, tPan, 6, yPan, rfl, uw_Pan, ut_Pan, un_Pan, by decide, rfl, Or.inr ⟨"BrinePans", nw_t 72 (by decide +kernel) (by decide +kernel)⟩⟩
theorem fp_Bri_98 : FP "BrinePans" 98 3 3 .int := ⟨fk_Bri_98, fun q h => by cases h; exact ⟨rfl, (by decide +kernel)⟩⟩
theorem fk_Bri_101 : FK "BrinePans" 101 3 4 := ⟨cPan, tPan, 6, yPan, rfl, uw_Pan, ut_Pan, un_Pan, by decide, rfl, Or.inr ⟨"BrinePans", nw_t 74 (by decide +kernel) (by decide +kernel)⟩⟩
theorem fp_Bri_101 : FP "BrinePans" 101 3 4 .int := ⟨fk_Bri_101, fun q h => by cases h; exact ⟨rfl, (by decide +kernel)⟩⟩
theorem fk_Bri_104 : FK "BrinePans" 104 3 1 := ⟨cPan, tPan, 6, yPan, rfl, uw_Pan, ut_Pan, un_Pan, by decide, rfl, Or.inr ⟨"BrinePans", nw_t 66 (by decide +kernel) (by decide +kernel)⟩⟩
theorem fk_Bri_111 : FK "BrinePans" 111 3 2 := ⟨cPan, tPan, 6, yPan, rfl, uw_Pan, ut_Pan, un_Pan, by decide, rfl, Or.inr ⟨"BrinePans", nw_t 69 (by decide +kernel) (by decide +kernel)⟩⟩
theorem fk_Bri_120 : FK "BrinePans" 120 0 2 := ⟨cAct, tAct, 3, yAct, rfl, uw_Act, ut_Act, un_Act, by decide, rfl, Or.inr ⟨"BrinePans", nw_t 102 (by decide +kernel) (by decide +kernel)⟩⟩
theorem fp_Bri_120 : FP "BrinePans" 120 0 2 .int := ⟨fk_Bri_120, fun q h => by cases h; exact ⟨rfl, (by decide +kernel)⟩⟩
theorem fk_Bri_123 : FK "BrinePans" 123 1 3 := ⟨cFin, tFin, 4, yFin, rfl, uw_Fin, ut_Fin, un_Fin, by decide, rfl, Or.inr ⟨"BrinePans", nw_t 120 (by decide +kernel) (by decide +kernel)⟩⟩
theorem fp_Bri_123 : FP "BrinePans" 123 1 3 .int := ⟨fk_Bri_123, fun q h => by cases h; exact ⟨rfl, (by decide +kernel)⟩⟩
theorem fk_Bri_124 : FK "BrinePans" 124 4 1 := ⟨cTxt, tTxt, 2, yTxt, rfl, uw_Txt, ut_Txt, un_Txt, by decide, rfl, Or.inr ⟨"BrinePans", nw_t 26 (by decide +kernel) (by decide +kernel)⟩⟩
theorem fp_Bri_124 : FP "BrinePans" 124 4 1 .int := ⟨fk_Bri_124, fun q h => by cases h; exact ⟨rfl, (by decide +kernel)⟩⟩
theorem fk_Bri_131 : FK "BrinePans" 131 2 0 := ⟨cGro, tGro, 4, yGro, rfl, uw_Gro, ut_Gro, un_Gro, by decide, rfl, Or.inr ⟨"BrinePans", nw_t 40 (by decide +kernel) (by decide +kernel)⟩⟩
theorem fk_Act_11 : FK "BrinePans$Acts" 11 0 0 := ⟨cAct, tAct, 3, yAct, rfl, uw_Act, ut_Act, un_Act, by decide, rfl, Or.inl (gw_t 99 (by decide +kernel) (by decide +kernel))⟩
theorem fk_Act_17 : FK "BrinePans$Acts" 17 0 1 := ⟨cAct, tAct, 3, yAct, rfl, uw_Act, ut_Act, un_Act, by decide, rfl, Or.inl (gw_t 100 (by decide +kernel) (by decide +kernel))⟩
theorem fp_Act_17 : FP "BrinePans$Acts" 17 0 1 .int := ⟨fk_Act_17, fun q h => by cases h; exact ⟨rfl, (by decide +kernel)⟩⟩
theorem fk_Act_21 : FK "BrinePans$Acts" 21 0 2 := ⟨cAct, tAct, 3, yAct, rfl, uw_Act, ut_Act, un_Act, by decide, rfl, Or.inl (gw_t 101 (by decide +kernel) (by decide +kernel))⟩
theorem fp_Act_21 : FP "BrinePans$Acts" 21 0 2 .int := ⟨fk_Act_21, fun q h => by cases h; exact ⟨rfl, (by decide +kernel)⟩⟩
theorem fk_Fin_9 : FK "BrinePans$Finds" 9 1 0 := ⟨cFin, tFin, 4, yFin, rfl, uw_Fin, ut_Fin, un_Fin, by decide, rfl, Or.inl (gw_t 116 (by decide +kernel) (by decide +kernel))⟩
theorem fk_Fin_15 : FK "BrinePans$Finds" 15 1 1 := ⟨cFin, tFin, 4, yFin, rfl, uw_Fin, ut_Fin, un_Fin, by decide, rfl, Or.inl (gw_t 117 (by decide +kernel) (by decide +kernel))⟩
theorem fk_Fin_18 : FK "BrinePans$Finds" 18 1 2 := ⟨cFin, tFin, 4, yFin, rfl, uw_Fin, ut_Fin, un_Fin, by decide, rfl, Or.inl (gw_t 118 (by decide +kernel) (by decide +kernel))⟩
theorem fk_Fin_22 : FK "BrinePans$Finds" 22 1 3 := ⟨cFin, tFin, 4, yFin, rfl, uw_Fin, ut_Fin, un_Fin, by decide, rfl, Or.inl (gw_t 119 (by decide +kernel) (by decide +kernel))⟩
theorem fp_Fin_22 : FP "BrinePans$Finds" 22 1 3 .int := ⟨fk_Fin_22, fun q h => by cases h; exact ⟨rfl, (by decide +kernel)⟩⟩
theorem fk_Gro_9 : FK "BrinePans$Ground" 9 2 0 := ⟨cGro, tGro, 4, yGro, rfl, uw_Gro, ut_Gro, un_Gro, by decide, rfl, Or.inl (gw_t 39 (by decide +kernel) (by decide +kernel))⟩
theorem fk_Gro_15 : FK "BrinePans$Ground" 15 2 1 := ⟨cGro, tGro, 4, yGro, rfl, uw_Gro, ut_Gro, un_Gro, by decide, rfl, Or.inl (gw_t 42 (by decide +kernel) (by decide +kernel))⟩
theorem fk_Gro_18 : FK "BrinePans$Ground" 18 2 2 := ⟨cGro, tGro, 4, yGro, rfl, uw_Gro, ut_Gro, un_Gro, by decide, rfl, Or.inl (gw_t 43 (by decide +kernel) (by decide +kernel))⟩
theorem fp_Gro_18 : FP "BrinePans$Ground" 18 2 2 .int := ⟨fk_Gro_18, fun q h => by cases h; exact ⟨rfl, (by decide +kernel)⟩⟩
theorem fk_Gro_22 : FK "BrinePans$Ground" 22 2 3 := ⟨cGro, tGro, 4, yGro, rfl, uw_Gro, ut_Gro, un_Gro, by decide, rfl, Or.inl (gw_t 47 (by decide +kernel) (by decide +kernel))⟩
theorem fp_Gro_22 : FP "BrinePans$Ground" 22 2 3 .int := ⟨fk_Gro_22, fun q h => by cases h; exact ⟨rfl, (by decide +kernel)⟩⟩
theorem fk_Pan_9 : FK "BrinePans$Pans" 9 3 1 := ⟨cPan, tPan, 6, yPan, rfl, uw_Pan, ut_Pan, un_Pan, by decide, rfl, Or.inl (gw_t 65 (by decide +kernel) (by decide +kernel))⟩
theorem fk_Pan_15 : FK "BrinePans$Pans" 15 3 2 := ⟨cPan, tPan, 6, yPan, rfl, uw_Pan, ut_Pan, un_Pan, by decide, rfl, Or.inl (gw_t 68 (by decide +kernel) (by decide +kernel))⟩
theorem fk_Pan_18 : FK "BrinePans$Pans" 18 3 3 := ⟨cPan, tPan, 6, yPan, rfl, uw_Pan, ut_Pan, un_Pan, by decide, rfl, Or.inl (gw_t 71 (by decide +kernel) (by decide +kernel))⟩
theorem fp_Pan_18 : FP "BrinePans$Pans" 18 3 3 .int := ⟨fk_Pan_18, fun q h => by cases h; exact ⟨rfl, (by decide +kernel)⟩⟩
theorem fk_Pan_22 : FK "BrinePans$Pans" 22 3 4 := ⟨cPan, tPan, 6, yPan, rfl, uw_Pan, ut_Pan, un_Pan, by decide, rfl, Or.inl (gw_t 73 (by decide +kernel) (by decide +kernel))⟩
theorem fp_Pan_22 : FP "BrinePans$Pans" 22 3 4 .int := ⟨fk_Pan_22, fun q h => by cases h; exact ⟨rfl, (by decide +kernel)⟩⟩
theorem fk_Pan_25 : FK "BrinePans$Pans" 25 3 5 := ⟨cPan, tPan, 6, yPan, rfl, uw_Pan, ut_Pan, un_Pan, by decide, rfl, Or.inl (gw_t 75 (by decide +kernel) (by decide +kernel))⟩
theorem fp_Pan_25 : FP "BrinePans$Pans" 25 3 5 .int := ⟨fk_Pan_25, fun q h => by cases h; exact ⟨rfl, (by decide +kernel)⟩⟩
theorem fk_Pan_28 : FK "BrinePans$Pans" 28 3 0 := ⟨cPan, tPan, 6, yPan, rfl, uw_Pan, ut_Pan, un_Pan, by decide, rfl, Or.inl (gw_t 64 (by decide +kernel) (by decide +kernel))⟩
theorem fk_Pan_49 : FK "BrinePans$Pans" 49 2 2 := ⟨cGro, tGro, 4, yGro, rfl, uw_Gro, ut_Gro, un_Gro, by decide, rfl, Or.inr ⟨"BrinePans", nw_t 46 (by decide +kernel) (by decide +kernel)⟩⟩
theorem fp_Pan_49 : FP "BrinePans$Pans" 49 2 2 .int := ⟨fk_Pan_49, fun q h => by cases h; exact ⟨rfl, (by decide +kernel)⟩⟩
theorem fk_Pan_95 : FK "BrinePans$Pans" 95 2 0 := ⟨cGro, tGro, 4, yGro, rfl, uw_Gro, ut_Gro, un_Gro, by decide, rfl, Or.inr ⟨"BrinePans", nw_t 41 (by decide +kernel) (by decide +kernel)⟩⟩
theorem fk_Txt_9 : FK "BrinePans$Text" 9 4 0 := ⟨cTxt, tTxt, 2, yTxt, rfl, uw_Txt, ut_Txt, un_Txt, by decide, rfl, Or.inl (gw_t 24 (by decide +kernel) (by decide +kernel))⟩
theorem fk_Txt_15 : FK "BrinePans$Text" 15 4 1 := ⟨cTxt, tTxt, 2, yTxt, rfl, uw_Txt, ut_Txt, un_Txt, by decide, rfl, Or.inl (gw_t 25 (by decide +kernel) (by decide +kernel))⟩
theorem fp_Txt_15 : FP "BrinePans$Text" 15 4 1 .int := ⟨fk_Txt_15, fun q h => by cases h; exact ⟨rfl, (by decide +kernel)⟩⟩
theorem fk_Txt_43 : FK "BrinePans$Text" 43 3 1 := ⟨cPan, tPan, 6, yPan, rfl, uw_Pan, ut_Pan, un_Pan, by decide, rfl, Or.inr ⟨"BrinePans", nw_t 67 (by decide +kernel) (by decide +kernel)⟩⟩
theorem fk_Txt_46 : FK "BrinePans$Text" 46 2 2 := ⟨cGro, tGro, 4, yGro, rfl, uw_Gro, ut_Gro, un_Gro, by decide, rfl, Or.inr ⟨"BrinePans", nw_t 45 (by decide +kernel) (by decide +kernel)⟩⟩
theorem fp_Txt_46 : FP "BrinePans$Text" 46 2 2 .int := ⟨fk_Txt_46, fun q h => by cases h; exact ⟨rfl, (by decide +kernel)⟩⟩
theorem fk_Txt_53 : FK "BrinePans$Text" 53 3 2 := ⟨cPan, tPan, 6, yPan, rfl, uw_Pan, ut_Pan, un_Pan, by decide, rfl, Or.inr ⟨"BrinePans", nw_t 70 (by decide +kernel) (by decide +kernel)⟩⟩
theorem fk_Mod_7 : FK "BrinePansModel" 7 6 1 := ⟨cMod, tMod, 31, yMod, rfl, uw_Mod, ut_Mod, un_Mod, by decide, rfl, Or.inl (gw_t 541 (by decide +kernel) (by decide +kernel))⟩
theorem fk_Mod_13 : FK "BrinePansModel" 13 6 5 := ⟨cMod, tMod, 31, yMod, rfl, uw_Mod, ut_Mod, un_Mod, by decide, rfl, Or.inl (gw_t 545 (by decide +kernel) (by decide +kernel))⟩
theorem fk_Mod_16 : FK "BrinePansModel" 16 6 7 := ⟨cMod, tMod, 31, yMod, rfl, uw_Mod, ut_Mod, un_Mod, by decide, rfl, Or.inl (gw_t 547 (by decide +kernel) (by decide +kernel))⟩
theorem fk_Mod_19 : FK "BrinePansModel" 19 6 9 := ⟨cMod, tMod, 31, yMod, rfl, uw_Mod, ut_Mod, un_Mod, by decide, rfl, Or.inl (gw_t 549 (by decide +kernel) (by decide +kernel))⟩
theorem fk_Mod_22 : FK "BrinePansModel" 22 6 11 := ⟨cMod, tMod, 31, yMod, rfl, uw_Mod, ut_Mod, un_Mod, by decide, rfl, Or.inl (gw_t 551 (by decide +kernel) (by decide +kernel))⟩
theorem fk_Mod_25 : FK "BrinePansModel" 25 6 12 := ⟨cMod, tMod, 31, yMod, rfl, uw_Mod, ut_Mod, un_Mod, by decide, rfl, Or.inl (gw_t 552 (by decide +kernel) (by decide +kernel))⟩
theorem fk_Mod_28 : FK "BrinePansModel" 28 6 13 := ⟨cMod, tMod, 31, yMod, rfl, uw_Mod, ut_Mod, un_Mod, by decide, rfl, Or.inl (gw_t 553 (by decide +kernel) (by decide +kernel))⟩
theorem fk_Mod_31 : FK "BrinePansModel" 31 6 14 := ⟨cMod, tMod, 31, yMod, rfl, uw_Mod, ut_Mod, un_Mod, by decide, rfl, Or.inl (gw_t 554 (by decide +kernel) (by decide +kernel))⟩
theorem fk_Mod_34 : FK "BrinePansModel" 34 6 16 := ⟨cMod, tMod, 31, yMod, rfl, uw_Mod, ut_Mod, un_Mod, by decide, rfl, Or.inl (gw_t 556 (by decide +kernel) (by decide +kernel))⟩
theorem fk_Mod_37 : FK "BrinePansModel" 37 6 17 := ⟨cMod, tMod, 31, yMod, rfl, uw_Mod, ut_Mod, un_Mod, by decide, rfl, Or.inl (gw_t 557 (by decide +kernel) (by decide +kernel))⟩
theorem fk_Mod_41 : FK "BrinePansModel" 41 6 19 := ⟨cMod, tMod, 31, yMod, rfl, uw_Mod, ut_Mod, un_Mod, by decide, rfl, Or.inl (gw_t 559 (by decide +kernel) (by decide +kernel))⟩
theorem fk_Mod_44 : FK "BrinePansModel" 44 6 20 := ⟨cMod, tMod, 31, yMod, rfl, uw_Mod, ut_Mod, un_Mod, by decide, rfl, Or.inl (gw_t 560 (by decide +kernel) (by decide +kernel))⟩
theorem fk_Mod_47 : FK "BrinePansModel" 47 6 21 := ⟨cMod, tMod, 31, yMod, rfl, uw_Mod, ut_Mod, un_Mod, by decide, rfl, Or.inl (gw_t 561 (by decide +kernel) (by decide +kernel))⟩
theorem fk_Mod_50 : FK "BrinePansModel" 50 6 29 := ⟨cMod, tMod, 31, yMod, rfl, uw_Mod, ut_Mod, un_Mod, by decide, rfl, Or.inl (gw_t 569 (by decide +kernel) (by decide +kernel))⟩
theorem fk_Mod_53 : FK "BrinePansModel" 53 6 30 := ⟨cMod, tMod, 31, yMod, rfl, uw_Mod, ut_Mod, un_Mod, by decide, rfl, Or.inl (gw_t 570 (by decide +kernel) (by decide +kernel))⟩
theorem fk_Mod_56 : FK "BrinePansModel" 56 6 0 := ⟨cMod, tMod, 31, yMod, rfl, uw_Mod, ut_Mod, un_Mod, by decide, rfl, Or.inl (gw_t 540 (by decide +kernel) (by decide +kernel))⟩
theorem fp_Mod_56 : FP "BrinePansModel" 56 6 0 .int := ⟨fk_Mod_56, fun q h => by cases h; exact ⟨rfl, (by decide +kernel)⟩⟩
theorem fk_Mod_60 : FK "BrinePansModel" 60 6 4 := ⟨cMod, tMod, 31, yMod, rfl, uw_Mod, ut_Mod, un_Mod, by decide, rfl, Or.inl (gw_t 544 (by decide +kernel) (by decide +kernel))⟩
theorem fp_Mod_60 : FP "BrinePansModel" 60 6 4 .int := ⟨fk_Mod_60, fun q h => by cases h; exact ⟨rfl, (by decide +kernel)⟩⟩
theorem fk_Mod_69 : FK "BrinePansModel" 69 6 2 := ⟨cMod, tMod, 31, yMod, rfl, uw_Mod, ut_Mod, un_Mod, by decide, rfl, Or.inl (gw_t 542 (by decide +kernel) (by decide +kernel))⟩
theorem fp_Mod_69 : FP "BrinePansModel" 69 6 2 .int := ⟨fk_Mod_69, fun q h => by cases h; exact ⟨rfl, (by decide +kernel)⟩⟩
theorem fk_Mod_72 : FK "BrinePansModel" 72 6 3 := ⟨cMod, tMod, 31, yMod, rfl, uw_Mod, ut_Mod, un_Mod, by decide, rfl, Or.inl (gw_t 543 (by decide +kernel) (by decide +kernel))⟩
theorem fp_Mod_72 : FP "BrinePansModel" 72 6 3 .int := ⟨fk_Mod_72, fun q h => by cases h; exact ⟨rfl, (by decide +kernel)⟩⟩
theorem fk_Mod_79 : FK "BrinePansModel" 79 6 8 := ⟨cMod, tMod, 31, yMod, rfl, uw_Mod, ut_Mod, un_Mod, by decide, rfl, Or.inl (gw_t 548 (by decide +kernel) (by decide +kernel))⟩
theorem fp_Mod_79 : FP "BrinePansModel" 79 6 8 .int := ⟨fk_Mod_79, fun q h => by cases h; exact ⟨rfl, (by decide +kernel)⟩⟩
theorem fk_Mod_82 : FK "BrinePansModel" 82 6 10 := ⟨cMod, tMod, 31, yMod, rfl, uw_Mod, ut_Mod, un_Mod, by decide, rfl, Or.inl (gw_t 550 (by decide +kernel) (by decide +kernel))⟩
theorem fp_Mod_82 : FP "BrinePansModel" 82 6 10 .int := ⟨fk_Mod_82, fun q h => by cases h; exact ⟨rfl, (by decide +kernel)⟩⟩
theorem fk_Mod_100 : FK "BrinePansModel" 100 6 6 := ⟨cMod, tMod, 31, yMod, rfl, uw_Mod, ut_Mod, un_Mod, by decide, rfl, Or.inl (gw_t 546 (by decide +kernel) (by decide +kernel))⟩
theorem fp_Mod_100 : FP "BrinePansModel" 100 6 6 .int := ⟨fk_Mod_100, fun q h => by cases h; exact ⟨rfl, (by decide +kernel)⟩⟩
theorem fk_Mod_103 : FK "BrinePansModel" 103 6 15 := ⟨cMod, tMod, 31, yMod, rfl, uw_Mod, ut_Mod, un_Mod, by decide, rfl, Or.inl (gw_t 555 (by decide +kernel) (by decide +kernel))⟩
theorem fp_Mod_103 : FP "BrinePansModel" 103 6 15 .int := ⟨fk_Mod_103, fun q h => by cases h; exact ⟨rfl, (by decide +kernel)⟩⟩
theorem fk_Mod_156 : FK "BrinePansModel" 156 6 18 := ⟨cMod, tMod, 31, yMod, rfl, uw_Mod, ut_Mod, un_Mod, by decide, rfl, Or.inl (gw_t 558 (by decide +kernel) (by decide +kernel))⟩
theorem fp_Mod_156 : FP "BrinePansModel" 156 6 18 .int := ⟨fk_Mod_156, fun q h => by cases h; exact ⟨rfl, (by decide +kernel)⟩⟩
theorem fk_Mod_188 : FK "BrinePansModel" 188 6 23 := ⟨cMod, tMod, 31, yMod, rfl, uw_Mod, ut_Mod, un_Mod, by decide, rfl, Or.inl (gw_t 563 (by decide +kernel) (by decide +kernel))⟩
theorem fp_Mod_188 : FP "BrinePansModel" 188 6 23 .int := ⟨fk_Mod_188, fun q h => by cases h; exact ⟨rfl, (by decide +kernel)⟩⟩
theorem fk_Mod_191 : FK "BrinePansModel" 191 6 24 := ⟨cMod, tMod, 31, yMod, rfl, uw_Mod, ut_Mod, un_Mod, by decide, rfl, Or.inl (gw_t 564 (by decide +kernel) (by decide +kernel))⟩
theorem fp_Mod_191 : FP "BrinePansModel" 191 6 24 .int := ⟨fk_Mod_191, fun q h => by cases h; exact ⟨rfl, (by decide +kernel)⟩⟩
theorem fk_Mod_238 : FK "BrinePansModel" 238 6 25 := ⟨cMod, tMod, 31, yMod, rfl, uw_Mod, ut_Mod, un_Mod, by decide, rfl, Or.inl (gw_t 565 (by decide +kernel) (by decide +kernel))⟩
theorem fp_Mod_238 : FP "BrinePansModel" 238 6 25 .int := ⟨fk_Mod_238, fun q h => by cases h; exact ⟨rfl, (by decide +kernel)⟩⟩
theorem fk_Mod_241 : FK "BrinePansModel" 241 6 26 := ⟨cMod, tMod, 31, yMod, rfl, uw_Mod, ut_Mod, un_Mod, by decide, rfl, Or.inl (gw_t 566 (by decide +kernel) (by decide +kernel))⟩
theorem fp_Mod_241 : FP "BrinePansModel" 241 6 26 .int := ⟨fk_Mod_241, fun q h => by cases h; exact ⟨rfl, (by decide +kernel)⟩⟩
theorem fk_Mod_248 : FK "BrinePansModel" 248 6 27 := ⟨cMod, tMod, 31, yMod, rfl, uw_Mod, ut_Mod, un_Mod, by decide, rfl, Or.inl (gw_t 567 (by decide +kernel) (by decide +kernel))⟩
theorem fp_Mod_248 : FP "BrinePansModel" 248 6 27 .int := ⟨fk_Mod_248, fun q h => by cases h; exact ⟨rfl, (by decide +kernel)⟩⟩
theorem fk_Mod_251 : FK "BrinePansModel" 251 6 28 := ⟨cMod, tMod, 31, yMod, rfl, uw_Mod, ut_Mod, un_Mod, by decide, rfl, Or.inl (gw_t 568 (by decide +kernel) (by decide +kernel))⟩
theorem fp_Mod_251 : FP "BrinePansModel" 251 6 28 .int := ⟨fk_Mod_251, fun q h => by cases h; exact ⟨rfl, (by decide +kernel)⟩⟩
theorem fk_Mod_261 : FK "BrinePansModel" 261 6 22 := ⟨cMod, tMod, 31, yMod, rfl, uw_Mod, ut_Mod, un_Mod, by decide, rfl, Or.inl (gw_t 562 (by decide +kernel) (by decide +kernel))⟩
theorem fp_Mod_261 : FP "BrinePansModel" 261 6 22 .long := ⟨fk_Mod_261, fun q h => by cases h; exact ⟨rfl, (by decide +kernel)⟩⟩
theorem fv_0_0 {X : HI} {Y : HL} : FV X Y 0 5 0 (.ref 1) := ⟨by decide, by decide, rfl⟩
theorem fv_0_1 {X : HI} {Y : HL} : FV X Y 0 5 1 (.ref 3) := ⟨by decide, by decide, rfl⟩
theorem fv_0_2 {X : HI} {Y : HL} : FV X Y 0 5 2 (.ref 16) := ⟨by decide, by decide, rfl⟩
theorem fv_0_3 {X : HI} {Y : HL} : FV X Y 0 5 3 (.ref 19) := ⟨by decide, by decide, rfl⟩
theorem fv_0_4 {X : HI} {Y : HL} : FV X Y 0 5 4 (.ref 6) := ⟨by decide, by decide, rfl⟩
theorem fv_0_5 {X : HI} {Y : HL} : FV X Y 0 5 5 (.ref 8) := ⟨by decide, by decide, rfl⟩
theorem fv_0_6 {X : HI} {Y : HL} : FV X Y 0 5 6 (.ref 12) := ⟨by decide, by decide, rfl⟩
theorem fv_0_7 {X : HI} {Y : HL} : FV X Y 0 5 7 (.ref 13) := ⟨by decide, by decide, rfl⟩
theorem fv_0_8 {X : HI} {Y : HL} : FV X Y 0 5 8 (.ref 14) := ⟨by decide, by decide, rfl⟩
theorem fv_0_9 {X : HI} {Y : HL} : FV X Y 0 5 9 (.ref 15) := ⟨by decide, by decide, rfl⟩
theorem fv_0_10 {X : HI} {Y : HL} : FV X Y 0 5 10 (.long (Y 0)) := ⟨by decide, by decide, rfl⟩
theorem fwl_0 : FWL 0 5 10 := ⟨by decide, by decide, fun x y v => ⟨rfl, Nat.le_of_ble_eq_true rfl⟩⟩
theorem ob_0 : OB 0 "BrinePans" := ⟨by decide, 5, _, by decide, rfl, rfl⟩
theorem fv_1_0 {X : HI} {Y : HL} : FV X Y 1 4 0 (.ref 2) := ⟨by decide, by decide, rfl⟩
theorem fv_1_1 {X : HI} {Y : HL} : FV X Y 1 4 1 (.int (X 1 1)) := ⟨by decide, by decide, rfl⟩
theorem fw_1_1 : FW 1 4 1 := ⟨by decide, by decide, fun x y v => ⟨rfl, Nat.le_of_ble_eq_true rfl⟩⟩
theorem ob_1 : OB 1 "BrinePans$Text" := ⟨by decide, 4, _, by decide, rfl, rfl⟩
theorem fv_3_0 {X : HI} {Y : HL} : FV X Y 3 2 0 (.ref 4) := ⟨by decide, by decide, rfl⟩
theorem fv_3_1 {X : HI} {Y : HL} : FV X Y 3 2 1 (.ref 5) := ⟨by decide, by decide, rfl⟩
theorem fv_3_2 {X : HI} {Y : HL} : FV X Y 3 2 2 (.int (X 3 2)) := ⟨by decide, by decide, rfl⟩
theorem fw_3_2 : FW 3 2 2 := ⟨by decide, by decide, fun x y v => ⟨rfl, Nat.le_of_ble_eq_true rfl⟩⟩
theorem fv_3_3 {X : HI} {Y : HL} : FV X Y 3 2 3 (.int (X 3 3)) := ⟨by decide, by decide, rfl⟩
theorem fw_3_3 : FW 3 2 3 := ⟨by decide, by decide, fun x y v => ⟨rfl, Nat.le_of_ble_eq_true rfl⟩⟩
theorem ob_3 : OB 3 "BrinePans$Ground" := ⟨by decide, 2, _, by decide, rfl, rfl⟩
theorem fv_6_0 {X : HI} {Y : HL} : FV X Y 6 0 0 (.ref 7) := ⟨by decide, by decide, rfl⟩
theorem fv_6_1 {X : HI} {Y : HL} : FV X Y 6 0 1 (.int (X 6 1)) := ⟨by decide, by decide, rfl⟩
theorem fw_6_1 : FW 6 0 1 := ⟨by decide, by decide, fun x y v => ⟨rfl, Nat.le_of_ble_eq_true rfl⟩⟩
theorem fv_6_2 {X : HI} {Y : HL} : FV X Y 6 0 2 (.int (X 6 2)) := ⟨by decide, by decide, rfl⟩
theorem fw_6_2 : FW 6 0 2 := ⟨by decide, by decide, fun x y v => ⟨rfl, Nat.le_of_ble_eq_true rfl⟩⟩
theorem ob_6 : OB 6 "BrinePans$Acts" := ⟨by decide, 0, _, by decide, rfl, rfl⟩
theorem fv_8_0 {X : HI} {Y : HL} : FV X Y 8 1 0 (.ref 9) := ⟨by decide, by decide, rfl⟩
theorem fv_8_1 {X : HI} {Y : HL} : FV X Y 8 1 1 (.ref 10) := ⟨by decide, by decide, rfl⟩
theorem fv_8_2 {X : HI} {Y : HL} : FV X Y 8 1 2 (.ref 11) := ⟨by decide, by decide, rfl⟩
theorem fv_8_3 {X : HI} {Y : HL} : FV X Y 8 1 3 (.int (X 8 3)) := ⟨by decide, by decide, rfl⟩
theorem fw_8_3 : FW 8 1 3 := ⟨by decide, by decide, fun x y v => ⟨rfl, Nat.le_of_ble_eq_true rfl⟩⟩
theorem ob_8 : OB 8 "BrinePans$Finds" := ⟨by decide, 1, _, by decide, rfl, rfl⟩
theorem fv_70_0 {X : HI} {Y : HL} : FV X Y 70 6 0 (.int (X 70 0)) := ⟨by decide, by decide, rfl⟩
theorem fw_70_0 : FW 70 6 0 := ⟨by decide, by decide, fun x y v => ⟨rfl, Nat.le_of_ble_eq_true rfl⟩⟩
theorem fv_70_1 {X : HI} {Y : HL} : FV X Y 70 6 1 (.ref 71) := ⟨by decide, by decide, rfl⟩
theorem fv_70_2 {X : HI} {Y : HL} : FV X Y 70 6 2 (.int (X 70 2)) := ⟨by decide, by decide, rfl⟩
theorem fw_70_2 : FW 70 6 2 := ⟨by decide, by decide, fun x y v => ⟨rfl, Nat.le_of_ble_eq_true rfl⟩⟩
theorem fv_70_3 {X : HI} {Y : HL} : FV X Y 70 6 3 (.int (X 70 3)) := ⟨by decide, by decide, rfl⟩
theorem fw_70_3 : FW 70 6 3 := ⟨by decide, by decide, fun x y v => ⟨rfl, Nat.le_of_ble_eq_true rfl⟩⟩
theorem fv_70_4 {X : HI} {Y : HL} : FV X Y 70 6 4 (.int (X 70 4)) := ⟨by decide, by decide, rfl⟩
theorem fw_70_4 : FW 70 6 4 := ⟨by decide, by decide, fun x y v => ⟨rfl, Nat.le_of_ble_eq_true rfl⟩⟩
theorem fv_70_5 {X : HI} {Y : HL} : FV X Y 70 6 5 (.ref 72) := ⟨by decide, by decide, rfl⟩
theorem fv_70_6 {X : HI} {Y : HL} : FV X Y 70 6 6 (.int (X 70 6)) := ⟨by decide, by decide, rfl⟩
theorem fw_70_6 : FW 70 6 6 := ⟨by decide, by decide, fun x y v => ⟨rfl, Nat.le_of_ble_eq_true rfl⟩⟩
theorem fv_70_7 {X : HI} {Y : HL} : FV X Y 70 6 7 (.ref 73) := ⟨by decide, by decide, rfl⟩
theorem fv_70_8 {X : HI} {Y : HL} : FV X Y 70 6 8 (.int (X 70 8)) := ⟨by decide, by decide, rfl⟩
theorem fw_70_8 : FW 70 6 8 := ⟨by decide, by decide, fun x y v => ⟨rfl, Nat.le_of_ble_eq_true rfl⟩⟩
theorem fv_70_9 {X : HI} {Y : HL} : FV X Y 70 6 9 (.ref 74) := ⟨by decide, by decide, rfl⟩
theorem fv_70_10 {X : HI} {Y : HL} : FV X Y 70 6 10 (.int (X 70 10)) := ⟨by decide, by decide, rfl⟩
theorem fw_70_10 : FW 70 6 10 := ⟨by decide, by decide, fun x y v => ⟨rfl, Nat.le_of_ble_eq_true rfl⟩⟩
theorem fv_70_11 {X : HI} {Y : HL} : FV X Y 70 6 11 (.ref 75) := ⟨by decide, by decide, rfl⟩
theorem fv_70_12 {X : HI} {Y : HL} : FV X Y 70 6 12 (.ref 76) := ⟨by decide, by decide, rfl⟩
theorem fv_70_13 {X : HI} {Y : HL} : FV X Y 70 6 13 (.ref 77) := ⟨by decide, by decide, rfl⟩
theorem fv_70_14 {X : HI} {Y : HL} : FV X Y 70 6 14 (.ref 78) := ⟨by decide, by decide, rfl⟩
theorem fv_70_15 {X : HI} {Y : HL} : FV X Y 70 6 15 (.int (X 70 15)) := ⟨by decide, by decide, rfl⟩
theorem fw_70_15 : FW 70 6 15 := ⟨by decide, by decide, fun x y v => ⟨rfl, Nat.le_of_ble_eq_true rfl⟩⟩
theorem fv_70_16 {X : HI} {Y : HL} : FV X Y 70 6 16 (.ref 79) := ⟨by decide, by decide, rfl⟩
theorem fv_70_17 {X : HI} {Y : HL} : FV X Y 70 6 17 (.ref 80) := ⟨by decide, by decide, rfl⟩
theorem fv_70_18 {X : HI} {Y : HL} : FV X Y 70 6 18 (.int (X 70 18)) := ⟨by decide, by decide, rfl⟩
theorem fw_70_18 : FW 70 6 18 := ⟨by decide, by decide, fun x y v => ⟨rfl, Nat.le_of_ble_eq_true rfl⟩⟩
theorem fv_70_19 {X : HI} {Y : HL} : FV X Y 70 6 19 (.ref 81) := ⟨by decide, by decide, rfl⟩
theorem fv_70_20 {X : HI} {Y : HL} : FV X Y 70 6 20 (.ref 82) := ⟨by decide, by decide, rfl⟩
theorem fv_70_21 {X : HI} {Y : HL} : FV X Y 70 6 21 (.ref 83) := ⟨by decide, by decide, rfl⟩
theorem fv_70_22 {X : HI} {Y : HL} : FV X Y 70 6 22 (.long (Y 70)) := ⟨by decide, by decide, rfl⟩
theorem fwl_70 : FWL 70 6 22 := ⟨by decide, by decide, fun x y v => ⟨rfl, Nat.le_of_ble_eq_true rfl⟩⟩
theorem fv_70_23 {X : HI} {Y : HL} : FV X Y 70 6 23 (.int (X 70 23)) := ⟨by decide, by decide, rfl⟩
theorem fw_70_23 : FW 70 6 23 := ⟨by decide, by decide, fun x y v => ⟨rfl, Nat.le_of_ble_eq_true rfl⟩⟩
theorem fv_70_24 {X : HI} {Y : HL} : FV X Y 70 6 24 (.int (X 70 24)) := ⟨by decide, by decide, rfl⟩
theorem fw_70_24 : FW 70 6 24 := ⟨by decide, by decide, fun x y v => ⟨rfl, Nat.le_of_ble_eq_true rfl⟩⟩
theorem fv_70_25 {X : HI} {Y : HL} : FV X Y 70 6 25 (.int (X 70 25)) := ⟨by decide, by decide, rfl⟩
theorem fw_70_25 : FW 70 6 25 := ⟨by decide, by decide, fun x y v => ⟨rfl, Nat.le_of_ble_eq_true rfl⟩⟩
theorem fv_70_26 {X : HI} {Y : HL} : FV X Y 70 6 26 (.int (X 70 26)) := ⟨by decide, by decide, rfl⟩
theorem fw_70_26 : FW 70 6 26 := ⟨by decide, by decide, fun x y v => ⟨rfl, Nat.le_of_ble_eq_true rfl⟩⟩
theorem fv_70_27 {X : HI} {Y : HL} : FV X Y 70 6 27 (.int (X 70 27)) := ⟨by decide, by decide, rfl⟩
theorem fw_70_27 : FW 70 6 27 := ⟨by decide, by decide, fun x y v => ⟨rfl, Nat.le_of_ble_eq_true rfl⟩⟩
theorem fv_70_28 {X : HI} {Y : HL} : FV X Y 70 6 28 (.int (X 70 28)) := ⟨by decide, by decide, rfl⟩
theorem fw_70_28 : FW 70 6 28 := ⟨by decide, by decide, fun x y v => ⟨rfl, Nat.le_of_ble_eq_true rfl⟩⟩
theorem fv_70_29 {X : HI} {Y : HL} : FV X Y 70 6 29 (.ref 84) := ⟨by decide, by decide, rfl⟩
theorem fv_70_30 {X : HI} {Y : HL} : FV X Y 70 6 30 (.ref 85) := ⟨by decide, by decide, rfl⟩
theorem ob_70 : OB 70 "BrinePansModel" := ⟨by decide, 6, _, by decide, rfl, rfl⟩
theorem ai_2 : AI 2 36 := ⟨by decide, by decide⟩
theorem ai_4 : AI 4 6 := ⟨by decide, by decide⟩
theorem ai_5 : AI 5 5 := ⟨by decide, by decide⟩
theorem ai_9 : AI 9 6 := ⟨by decide, by decide⟩
theorem ai_10 : AI 10 6 := ⟨by decide, by decide⟩
theorem ai_14 : AI 14 64 := ⟨by decide, by decide⟩
theorem ai_15 : AI 15 8 := ⟨by decide, by decide⟩
theorem ai_71 : AI 71 36 := ⟨by decide, by decide⟩
theorem ai_72 : AI 72 6 := ⟨by decide, by decide⟩
theorem ai_73 : AI 73 5 := ⟨by decide, by decide⟩
theorem ai_74 : AI 74 18 := ⟨by decide, by decide⟩
theorem ai_75 : AI 75 5 := ⟨by decide, by decide⟩
theorem ai_76 : AI 76 15 := ⟨by decide, by decide⟩
theorem ai_77 : AI 77 15 := ⟨by decide, by decide⟩
theorem ai_78 : AI 78 210 := ⟨by decide, by decide⟩
theorem ai_79 : AI 79 30 := ⟨by decide, by decide⟩
theorem ai_81 : AI 81 6 := ⟨by decide, by decide⟩
theorem ai_82 : AI 82 6 := ⟨by decide, by decide⟩
theorem ai_83 : AI 83 6 := ⟨by decide, by decide⟩
theorem ai_84 : AI 84 8 := ⟨by decide, by decide⟩
theorem ai_85 : AI 85 64 := ⟨by decide, by decide⟩
theorem ai_17 : AI 17 6 := ⟨by decide, by decide⟩
theorem ai_18 : AI 18 6 := ⟨by decide, by decide⟩
theorem ai_20 : AI 20 6 := ⟨by decide, by decide⟩
theorem ai_21 : AI 21 6 := ⟨by decide, by decide⟩
theorem az_11 : AZ 11 6 := ⟨by decide, by decide⟩
theorem az_13 : AZ 13 2 := ⟨by decide, by decide⟩
theorem az_80 : AZ 80 2 := ⟨by decide, by decide⟩
theorem ar_7 : AR 7 14 := ⟨by decide, by decide⟩
theorem ar_12 : AR 12 2 := ⟨by decide, by decide⟩
def IsP (p : Nat) : Prop := 16 ≤ p ∧ p < 70 ∧ (p - 16) % 3 = 0
theorem isP_16 : IsP 16 := ⟨by decide, by decide, by decide⟩
theorem isP_19 : IsP 19 := ⟨by decide, by decide, by decide⟩
theorem isP_kd {p : Nat} (h : IsP p) : kd p = (0, 3) := by
  obtain ⟨h1, h2, h3⟩ := h
  unfold kd
  repeat rw [if_neg (by omega)]
  rw [if_pos h2, if_pos h3]
theorem isP_kd1 {p : Nat} (h : IsP p) : kd (p + 1) = (1, 6) := by
  obtain ⟨h1, h2, h3⟩ := h
  unfold kd
  rw [if_neg (by omega), if_neg (by omega), if_neg (by omega), if_neg (by omega), if_neg (by omega), if_neg (by omega), if_neg (by omega), if_neg (by omega), if_neg (by omega), if_neg (by omega), if_neg (by omega), if_neg (by omega), if_neg (by omega), if_neg (by omega), if_neg (by omega), if_neg (by omega), if_pos (by omega), if_neg (by omega)]
theorem isP_kd2 {p : Nat} (h : IsP p) : kd (p + 2) = (1, 6) := by
  obtain ⟨h1, h2, h3⟩ := h
  unfold kd
  rw [if_neg (by omega), if_neg (by omega), if_neg (by omega), if_neg (by omega), if_neg (by omega), if_neg (by omega), if_neg (by omega), if_neg (by omega), if_neg (by omega), if_neg (by omega), if_neg (by omega), if_neg (by omega), if_neg (by omega), if_neg (by omega), if_neg (by omega), if_neg (by omega), if_pos (by omega), if_neg (by omega)]
theorem fB_P {p : Nat} (h : IsP p) (x : Nat → Int32) (y : Int64) : fB x y p = [.ref 3, .ref (p + 1), .ref (p + 2), .int (x 3), .int (x 4), .int (x 5)] := by
  obtain ⟨h1, h2, h3⟩ := h
  unfold fB
  rw [if_neg (by omega), if_neg (by omega), if_neg (by omega), if_neg (by omega), if_neg (by omega), if_neg (by omega)]
theorem isP_lt {p : Nat} (h : IsP p) : p < 86 := by have := h.2.1; omega
theorem ob_P {p : Nat} (h : IsP p) : OB p "BrinePans$Pans" := ⟨isP_lt h, 3, _, isP_kd h, rfl, rfl⟩
theorem ai_P1 {p : Nat} (h : IsP p) : AI (p + 1) 6 := ⟨by obtain ⟨h1, h2, h3⟩ := h; omega, isP_kd1 h⟩
theorem ai_P2 {p : Nat} (h : IsP p) : AI (p + 2) 6 := ⟨by obtain ⟨h1, h2, h3⟩ := h; omega, isP_kd2 h⟩
theorem fv_P0 {X : HI} {Y : HL} {p : Nat} (h : IsP p) : FV X Y p 3 0 (.ref 3) := ⟨isP_lt h, isP_kd h, by rw [fB_P h]; rfl⟩
theorem fv_P1 {X : HI} {Y : HL} {p : Nat} (h : IsP p) : FV X Y p 3 1 (.ref (p + 1)) := ⟨isP_lt h, isP_kd h, by rw [fB_P h]; rfl⟩
theorem fv_P2 {X : HI} {Y : HL} {p : Nat} (h : IsP p) : FV X Y p 3 2 (.ref (p + 2)) := ⟨isP_lt h, isP_kd h, by rw [fB_P h]; rfl⟩
theorem fv_P3 {X : HI} {Y : HL} {p : Nat} (h : IsP p) : FV X Y p 3 3 (.int (X p 3)) := ⟨isP_lt h, isP_kd h, by rw [fB_P h]; rfl⟩
theorem fv_P4 {X : HI} {Y : HL} {p : Nat} (h : IsP p) : FV X Y p 3 4 (.int (X p 4)) := ⟨isP_lt h, isP_kd h, by rw [fB_P h]; rfl⟩
theorem fv_P5 {X : HI} {Y : HL} {p : Nat} (h : IsP p) : FV X Y p 3 5 (.int (X p 5)) := ⟨isP_lt h, isP_kd h, by rw [fB_P h]; rfl⟩
theorem fw_P3 {p : Nat} (h : IsP p) : FW p 3 3 := ⟨isP_lt h, isP_kd h, fun x y v => ⟨by rw [fB_P h, fB_P h]; rfl, by rw [fB_P h]; exact Nat.le_of_ble_eq_true rfl⟩⟩
theorem fw_P4 {p : Nat} (h : IsP p) : FW p 3 4 := ⟨isP_lt h, isP_kd h, fun x y v => ⟨by rw [fB_P h, fB_P h]; rfl, by rw [fB_P h]; exact Nat.le_of_ble_eq_true rfl⟩⟩
theorem fw_P5 {p : Nat} (h : IsP p) : FW p 3 5 := ⟨isP_lt h, isP_kd h, fun x y v => ⟨by rw [fB_P h, fB_P h]; rfl, by rw [fB_P h]; exact Nat.le_of_ble_eq_true rfl⟩⟩
theorem ixb_cl {i : Int32} {n : Nat} (h : ixb i n = true) : i.toNatClampNeg < n := by
  have h2 := ixb_in h
  unfold vp_in at h2
  omega
theorem isP_r7 {i : Int32} (h : ixb i 14 = true) : IsP (rA 7 i.toNatClampNeg) := by
  have h2 := ixb_cl h
  unfold rA IsP
  rw [if_pos rfl]
  omega
theorem isP_r12 {i : Int32} (h : ixb i 2 = true) : IsP (rA 12 i.toNatClampNeg) := by
  have h2 := ixb_cl h
  unfold rA IsP
  rw [if_neg (by decide)]
  omega
