section
-- ===== PART A: goes FIRST, ahead of the names: the tables' words, and 'selects' of the private methods out of them =====
/-- a private method of a class that the tables say can be made, by its rows of tables_1 -/
def lw_okq (q : MethodName × Nat) : Prop := (q.1.cls ≠ "java/lang/invoke/MethodHandle" ∧ q.1.cls ≠ "java/lang/invoke/VarHandle") ∧ Cond.instantiable q.1.cls q.2 ∈ tables_1 ∧ Cond.privateMethod q.1 ∈ tables_1 ∧ Cond.instanceMethod q.1 ∈ tables_1
theorem lw_p0 : lw_okq (⟨"BrinePans$Text", "append", "(I)I"⟩, 2) := ⟨⟨by decide +kernel, by decide +kernel⟩, List.mem_of_getElem? (i := 19) (by decide +kernel), List.mem_of_getElem? (i := 170) (by decide +kernel), List.mem_of_getElem? (i := 171) (by decide +kernel)⟩
theorem lw_p1 : lw_okq (⟨"BrinePans$Text", "clear", "()I"⟩, 2) := ⟨⟨by decide +kernel, by decide +kernel⟩, List.mem_of_getElem? (i := 19) (by decide +kernel), List.mem_of_getElem? (i := 178) (by decide +kernel), List.mem_of_getElem? (i := 179) (by decide +kernel)⟩
theorem lw_p2 : lw_okq (⟨"BrinePans$Text", "firstFault", "()I"⟩, 2) := ⟨⟨by decide +kernel, by decide +kernel⟩, List.mem_of_getElem? (i := 19) (by decide +kernel), List.mem_of_getElem? (i := 186) (by decide +kernel), List.mem_of_getElem? (i := 187) (by decide +kernel)⟩
theorem lw_p3 : lw_okq (⟨"BrinePans$Text", "layOut", "(LBrinePans$Ground;LBrinePans$Pans;)V"⟩, 2) := ⟨⟨by decide +kernel, by decide +kernel⟩, List.mem_of_getElem? (i := 19) (by decide +kernel), List.mem_of_getElem? (i := 203) (by decide +kernel), List.mem_of_getElem? (i := 204) (by decide +kernel)⟩
theorem lw_p4 : lw_okq (⟨"BrinePans$Ground", "clear", "()V"⟩, 4) := ⟨⟨by decide +kernel, by decide +kernel⟩, List.mem_of_getElem? (i := 34) (by decide +kernel), List.mem_of_getElem? (i := 207) (by decide +kernel), List.mem_of_getElem? (i := 208) (by decide +kernel)⟩
theorem lw_p5 : lw_okq (⟨"BrinePans$Pans", "clear", "()V"⟩, 6) := ⟨⟨by decide +kernel, by decide +kernel⟩, List.mem_of_getElem? (i := 59) (by decide +kernel), List.mem_of_getElem? (i := 211) (by decide +kernel), List.mem_of_getElem? (i := 212) (by decide +kernel)⟩
theorem lw_p6 : lw_okq (⟨"BrinePans$Pans", "emptyAllBut", "(I)V"⟩, 6) := ⟨⟨by decide +kernel, by decide +kernel⟩, List.mem_of_getElem? (i := 59) (by decide +kernel), List.mem_of_getElem? (i := 215) (by decide +kernel), List.mem_of_getElem? (i := 216) (by decide +kernel)⟩
theorem lw_p7 : lw_okq (⟨"BrinePans$Ground", "addPan", "(I)V"⟩, 4) := ⟨⟨by decide +kernel, by decide +kernel⟩, List.mem_of_getElem? (i := 34) (by decide +kernel), List.mem_of_getElem? (i := 219) (by decide +kernel), List.mem_of_getElem? (i := 220) (by decide +kernel)⟩
theorem lw_p8 : lw_okq (⟨"BrinePans$Ground", "addSky", "(I)V"⟩, 4) := ⟨⟨by decide +kernel, by decide +kernel⟩, List.mem_of_getElem? (i := 34) (by decide +kernel), List.mem_of_getElem? (i := 223) (by decide +kernel), List.mem_of_getElem? (i := 224) (by decide +kernel)⟩
theorem lw_p9 : lw_okq (⟨"BrinePans$Acts", "clear", "()V"⟩, 3) := ⟨⟨by decide +kernel, by decide +kernel⟩, List.mem_of_getElem? (i := 91) (by decide +kernel), List.mem_of_getElem? (i := 227) (by decide +kernel), List.mem_of_getElem? (i := 228) (by decide +kernel)⟩
theorem lw_p10 : lw_okq (⟨"BrinePans$Ground", "skyOf", "(I)I"⟩, 4) := ⟨⟨by decide +kernel, by decide +kernel⟩, List.mem_of_getElem? (i := 34) (by decide +kernel), List.mem_of_getElem? (i := 235) (by decide +kernel), List.mem_of_getElem? (i := 236) (by decide +kernel)⟩
theorem lw_p11 : lw_okq (⟨"BrinePans$Pans", "sumOf", "([I)I"⟩, 6) := ⟨⟨by decide +kernel, by decide +kernel⟩, List.mem_of_getElem? (i := 59) (by decide +kernel), List.mem_of_getElem? (i := 239) (by decide +kernel), List.mem_of_getElem? (i := 240) (by decide +kernel)⟩
theorem lw_p12 : lw_okq (⟨"BrinePans$Pans", "crustOfAll", "()I"⟩, 6) := ⟨⟨by decide +kernel, by decide +kernel⟩, List.mem_of_getElem? (i := 59) (by decide +kernel), List.mem_of_getElem? (i := 243) (by decide +kernel), List.mem_of_getElem? (i := 244) (by decide +kernel)⟩
theorem lw_p13 : lw_okq (⟨"BrinePans$Pans", "crustOf", "(I)I"⟩, 6) := ⟨⟨by decide +kernel, by decide +kernel⟩, List.mem_of_getElem? (i := 59) (by decide +kernel), List.mem_of_getElem? (i := 247) (by decide +kernel), List.mem_of_getElem? (i := 248) (by decide +kernel)⟩
theorem lw_p14 : lw_okq (⟨"BrinePans$Pans", "brineOf", "(I)I"⟩, 6) := ⟨⟨by decide +kernel, by decide +kernel⟩, List.mem_of_getElem? (i := 59) (by decide +kernel), List.mem_of_getElem? (i := 251) (by decide +kernel), List.mem_of_getElem? (i := 252) (by decide +kernel)⟩
theorem lw_p15 : lw_okq (⟨"BrinePans$Pans", "rakeable", "()I"⟩, 6) := ⟨⟨by decide +kernel, by decide +kernel⟩, List.mem_of_getElem? (i := 59) (by decide +kernel), List.mem_of_getElem? (i := 255) (by decide +kernel), List.mem_of_getElem? (i := 256) (by decide +kernel)⟩
def lw_privs_1 : List (MethodName × Nat) := [(⟨"BrinePans$Text", "append", "(I)I"⟩, 2), (⟨"BrinePans$Text", "clear", "()I"⟩, 2), (⟨"BrinePans$Text", "firstFault", "()I"⟩, 2), (⟨"BrinePans$Text", "layOut", "(LBrinePans$Ground;LBrinePans$Pans;)V"⟩, 2), (⟨"BrinePans$Ground", "clear", "()V"⟩, 4), (⟨"BrinePans$Pans", "clear", "()V"⟩, 6), (⟨"BrinePans$Pans", "emptyAllBut", "(I)V"⟩, 6), (⟨"BrinePans$Ground", "addPan", "(I)V"⟩, 4), (⟨"BrinePans$Ground", "addSky", "(I)V"⟩, 4), (⟨"BrinePans$Acts", "clear", "()V"⟩, 3), (⟨"BrinePans$Ground", "skyOf", "(I)I"⟩, 4), (⟨"BrinePans$Pans", "sumOf", "([I)I"⟩, 6), (⟨"BrinePans$Pans", "crustOfAll", "()I"⟩, 6), (⟨"BrinePans$Pans", "crustOf", "(I)I"⟩, 6), (⟨"BrinePans$Pans", "brineOf", "(I)I"⟩, 6), (⟨"BrinePans$Pans", "rakeable", "()I"⟩, 6)]
theorem lw_r1 : ∀ q ∈ lw_privs_1, lw_okq q := List.forall_mem_cons.mpr ⟨lw_p0, List.forall_mem_cons.mpr ⟨lw_p1, List.forall_mem_cons.mpr ⟨lw_p2, List.forall_mem_cons.mpr ⟨lw_p3, List.forall_mem_cons.mpr ⟨lw_p4, List.forall_mem_cons.mpr ⟨lw_p5, List.forall_mem_cons.mpr ⟨lw_p6, List.forall_mem_cons.mpr ⟨lw_p7, List.forall_mem_cons.mpr ⟨lw_p8, List.forall_mem_cons.mpr ⟨lw_p9, List.forall_mem_cons.mpr ⟨lw_p10, List.forall_mem_cons.mpr ⟨lw_p11, List.forall_mem_cons.mpr ⟨lw_p12, List.forall_mem_cons.mpr ⟨lw_p13, List.forall_mem_cons.mpr ⟨lw_p14, List.forall_mem_cons.mpr ⟨lw_p15, fun _ h => absurd h List.not_mem_nil⟩⟩⟩⟩⟩⟩⟩⟩⟩⟩⟩⟩⟩⟩⟩⟩
theorem lw_p16 : lw_okq (⟨"BrinePans$Pans", "canRake", "(I)Z"⟩, 6) := ⟨⟨by decide +kernel, by decide +kernel⟩, List.mem_of_getElem? (i := 59) (by decide +kernel), List.mem_of_getElem? (i := 259) (by decide +kernel), List.mem_of_getElem? (i := 260) (by decide +kernel)⟩
theorem lw_p17 : lw_okq (⟨"BrinePans$Ground", "hasPan", "(I)Z"⟩, 4) := ⟨⟨by decide +kernel, by decide +kernel⟩, List.mem_of_getElem? (i := 34) (by decide +kernel), List.mem_of_getElem? (i := 267) (by decide +kernel), List.mem_of_getElem? (i := 268) (by decide +kernel)⟩
theorem lw_p18 : lw_okq (⟨"BrinePans$Pans", "roomOf", "(I)I"⟩, 6) := ⟨⟨by decide +kernel, by decide +kernel⟩, List.mem_of_getElem? (i := 59) (by decide +kernel), List.mem_of_getElem? (i := 273) (by decide +kernel), List.mem_of_getElem? (i := 274) (by decide +kernel)⟩
theorem lw_p19 : lw_okq (⟨"BrinePans$Ground", "depthOf", "(I)I"⟩, 4) := ⟨⟨by decide +kernel, by decide +kernel⟩, List.mem_of_getElem? (i := 34) (by decide +kernel), List.mem_of_getElem? (i := 277) (by decide +kernel), List.mem_of_getElem? (i := 278) (by decide +kernel)⟩
theorem lw_p20 : lw_okq (⟨"BrinePans", "fromNow", "()LBrinePans$Pans;"⟩, 11) := ⟨⟨by decide +kernel, by decide +kernel⟩, List.mem_of_getElem? (i := 11) (by decide +kernel), List.mem_of_getElem? (i := 285) (by decide +kernel), List.mem_of_getElem? (i := 286) (by decide +kernel)⟩
theorem lw_p21 : lw_okq (⟨"BrinePans$Pans", "copy", "(LBrinePans$Pans;)V"⟩, 6) := ⟨⟨by decide +kernel, by decide +kernel⟩, List.mem_of_getElem? (i := 59) (by decide +kernel), List.mem_of_getElem? (i := 289) (by decide +kernel), List.mem_of_getElem? (i := 290) (by decide +kernel)⟩
theorem lw_p22 : lw_okq (⟨"BrinePans$Pans", "passDay", "(Z)V"⟩, 6) := ⟨⟨by decide +kernel, by decide +kernel⟩, List.mem_of_getElem? (i := 59) (by decide +kernel), List.mem_of_getElem? (i := 293) (by decide +kernel), List.mem_of_getElem? (i := 294) (by decide +kernel)⟩
theorem lw_p23 : lw_okq (⟨"BrinePans$Ground", "gateCount", "()I"⟩, 4) := ⟨⟨by decide +kernel, by decide +kernel⟩, List.mem_of_getElem? (i := 34) (by decide +kernel), List.mem_of_getElem? (i := 297) (by decide +kernel), List.mem_of_getElem? (i := 298) (by decide +kernel)⟩
theorem lw_p24 : lw_okq (⟨"BrinePans$Pans", "isOpen", "(I)Z"⟩, 6) := ⟨⟨by decide +kernel, by decide +kernel⟩, List.mem_of_getElem? (i := 59) (by decide +kernel), List.mem_of_getElem? (i := 301) (by decide +kernel), List.mem_of_getElem? (i := 302) (by decide +kernel)⟩
theorem lw_p25 : lw_okq (⟨"BrinePans$Pans", "letOn", "(II)I"⟩, 6) := ⟨⟨by decide +kernel, by decide +kernel⟩, List.mem_of_getElem? (i := 59) (by decide +kernel), List.mem_of_getElem? (i := 305) (by decide +kernel), List.mem_of_getElem? (i := 306) (by decide +kernel)⟩
theorem lw_p26 : lw_okq (⟨"BrinePans$Ground", "hasGate", "(I)Z"⟩, 4) := ⟨⟨by decide +kernel, by decide +kernel⟩, List.mem_of_getElem? (i := 34) (by decide +kernel), List.mem_of_getElem? (i := 309) (by decide +kernel), List.mem_of_getElem? (i := 310) (by decide +kernel)⟩
theorem lw_p27 : lw_okq (⟨"BrinePans$Pans", "drain", "(II)I"⟩, 6) := ⟨⟨by decide +kernel, by decide +kernel⟩, List.mem_of_getElem? (i := 59) (by decide +kernel), List.mem_of_getElem? (i := 316) (by decide +kernel), List.mem_of_getElem? (i := 317) (by decide +kernel)⟩
theorem lw_p28 : lw_okq (⟨"BrinePans$Pans", "fill", "(III)V"⟩, 6) := ⟨⟨by decide +kernel, by decide +kernel⟩, List.mem_of_getElem? (i := 59) (by decide +kernel), List.mem_of_getElem? (i := 320) (by decide +kernel), List.mem_of_getElem? (i := 321) (by decide +kernel)⟩
theorem lw_p29 : lw_okq (⟨"BrinePans$Pans", "rain", "(I)V"⟩, 6) := ⟨⟨by decide +kernel, by decide +kernel⟩, List.mem_of_getElem? (i := 59) (by decide +kernel), List.mem_of_getElem? (i := 328) (by decide +kernel), List.mem_of_getElem? (i := 329) (by decide +kernel)⟩
theorem lw_p30 : lw_okq (⟨"BrinePans$Pans", "shine", "(I)V"⟩, 6) := ⟨⟨by decide +kernel, by decide +kernel⟩, List.mem_of_getElem? (i := 59) (by decide +kernel), List.mem_of_getElem? (i := 332) (by decide +kernel), List.mem_of_getElem? (i := 333) (by decide +kernel)⟩
theorem lw_p31 : lw_okq (⟨"BrinePans", "settle", "(I)I"⟩, 11) := ⟨⟨by decide +kernel, by decide +kernel⟩, List.mem_of_getElem? (i := 11) (by decide +kernel), List.mem_of_getElem? (i := 339) (by decide +kernel), List.mem_of_getElem? (i := 340) (by decide +kernel)⟩
def lw_privs_2 : List (MethodName × Nat) := [(⟨"BrinePans$Pans", "canRake", "(I)Z"⟩, 6), (⟨"BrinePans$Ground", "hasPan", "(I)Z"⟩, 4), (⟨"BrinePans$Pans", "roomOf", "(I)I"⟩, 6), (⟨"BrinePans$Ground", "depthOf", "(I)I"⟩, 4), (⟨"BrinePans", "fromNow", "()LBrinePans$Pans;"⟩, 11), (⟨"BrinePans$Pans", "copy", "(LBrinePans$Pans;)V"⟩, 6), (⟨"BrinePans$Pans", "passDay", "(Z)V"⟩, 6), (⟨"BrinePans$Ground", "gateCount", "()I"⟩, 4), (⟨"BrinePans$Pans", "isOpen", "(I)Z"⟩, 6), (⟨"BrinePans$Pans", "letOn", "(II)I"⟩, 6), (⟨"BrinePans$Ground", "hasGate", "(I)Z"⟩, 4), (⟨"BrinePans$Pans", "drain", "(II)I"⟩, 6), (⟨"BrinePans$Pans", "fill", "(III)V"⟩, 6), (⟨"BrinePans$Pans", "rain", "(I)V"⟩, 6), (⟨"BrinePans$Pans", "shine", "(I)V"⟩, 6), (⟨"BrinePans", "settle", "(I)I"⟩, 11)]
theorem lw_r2 : ∀ q ∈ lw_privs_2, lw_okq q := List.forall_mem_cons.mpr ⟨lw_p16, List.forall_mem_cons.mpr ⟨lw_p17, List.forall_mem_cons.mpr ⟨lw_p18, List.forall_mem_cons.mpr ⟨lw_p19, List.forall_mem_cons.mpr ⟨lw_p20, List.forall_mem_cons.mpr ⟨lw_p21, List.forall_mem_cons.mpr ⟨lw_p22, List.forall_mem_cons.mpr ⟨lw_p23, List.forall_mem_cons.mpr ⟨lw_p24, List.forall_mem_cons.mpr ⟨lw_p25, List.forall_mem_cons.mpr ⟨lw_p26, List.forall_mem_cons.mpr ⟨lw_p27, List.forall_mem_cons.mpr ⟨lw_p28, List.forall_mem_cons.mpr ⟨lw_p29, List.forall_mem_cons.mpr ⟨lw_p30, List.forall_mem_cons.mpr ⟨lw_p31, fun _ h => absurd h List.not_mem_nil⟩⟩⟩⟩⟩⟩⟩⟩⟩⟩⟩⟩⟩⟩⟩⟩
theorem lw_p32 : lw_okq (⟨"BrinePans$Acts", "add", "(LBrinePans$Pans;)V"⟩, 3) := ⟨⟨by decide +kernel, by decide +kernel⟩, List.mem_of_getElem? (i := 91) (by decide +kernel), List.mem_of_getElem? (i := 343) (by decide +kernel), List.mem_of_getElem? (i := 344) (by decide +kernel)⟩
theorem lw_p33 : lw_okq (⟨"BrinePans$Pans", "takeSea", "(I)I"⟩, 6) := ⟨⟨by decide +kernel, by decide +kernel⟩, List.mem_of_getElem? (i := 59) (by decide +kernel), List.mem_of_getElem? (i := 353) (by decide +kernel), List.mem_of_getElem? (i := 354) (by decide +kernel)⟩
theorem lw_p34 : lw_okq (⟨"BrinePans$Pans", "turnGate", "(I)I"⟩, 6) := ⟨⟨by decide +kernel, by decide +kernel⟩, List.mem_of_getElem? (i := 59) (by decide +kernel), List.mem_of_getElem? (i := 367) (by decide +kernel), List.mem_of_getElem? (i := 368) (by decide +kernel)⟩
theorem lw_p35 : lw_okq (⟨"BrinePans$Pans", "setGate", "(IZ)V"⟩, 6) := ⟨⟨by decide +kernel, by decide +kernel⟩, List.mem_of_getElem? (i := 59) (by decide +kernel), List.mem_of_getElem? (i := 371) (by decide +kernel), List.mem_of_getElem? (i := 372) (by decide +kernel)⟩
theorem lw_p36 : lw_okq (⟨"BrinePans$Pans", "rakeUp", "(I)I"⟩, 6) := ⟨⟨by decide +kernel, by decide +kernel⟩, List.mem_of_getElem? (i := 59) (by decide +kernel), List.mem_of_getElem? (i := 379) (by decide +kernel), List.mem_of_getElem? (i := 380) (by decide +kernel)⟩
theorem lw_p37 : lw_okq (⟨"BrinePans$Acts", "takeBack", "(LBrinePans$Pans;)I"⟩, 3) := ⟨⟨by decide +kernel, by decide +kernel⟩, List.mem_of_getElem? (i := 91) (by decide +kernel), List.mem_of_getElem? (i := 387) (by decide +kernel), List.mem_of_getElem? (i := 388) (by decide +kernel)⟩
theorem lw_p38 : lw_okq (⟨"BrinePans$Pans", "passDays", "(I)V"⟩, 6) := ⟨⟨by decide +kernel, by decide +kernel⟩, List.mem_of_getElem? (i := 59) (by decide +kernel), List.mem_of_getElem? (i := 396) (by decide +kernel), List.mem_of_getElem? (i := 397) (by decide +kernel)⟩
theorem lw_p39 : lw_okq (⟨"BrinePans$Pans", "crustBehind", "(I)I"⟩, 6) := ⟨⟨by decide +kernel, by decide +kernel⟩, List.mem_of_getElem? (i := 59) (by decide +kernel), List.mem_of_getElem? (i := 405) (by decide +kernel), List.mem_of_getElem? (i := 406) (by decide +kernel)⟩
theorem lw_p40 : lw_okq (⟨"BrinePans$Pans", "isDone", "(III)Z"⟩, 6) := ⟨⟨by decide +kernel, by decide +kernel⟩, List.mem_of_getElem? (i := 59) (by decide +kernel), List.mem_of_getElem? (i := 439) (by decide +kernel), List.mem_of_getElem? (i := 440) (by decide +kernel)⟩
theorem lw_p41 : lw_okq (⟨"BrinePans$Finds", "add", "(III)I"⟩, 4) := ⟨⟨by decide +kernel, by decide +kernel⟩, List.mem_of_getElem? (i := 111) (by decide +kernel), List.mem_of_getElem? (i := 466) (by decide +kernel), List.mem_of_getElem? (i := 467) (by decide +kernel)⟩
theorem lw_p42 : lw_okq (⟨"BrinePans$Finds", "clear", "()I"⟩, 4) := ⟨⟨by decide +kernel, by decide +kernel⟩, List.mem_of_getElem? (i := 111) (by decide +kernel), List.mem_of_getElem? (i := 474) (by decide +kernel), List.mem_of_getElem? (i := 475) (by decide +kernel)⟩
theorem lw_p43 : lw_okq (⟨"BrinePans$Finds", "allow", "(I)Z"⟩, 4) := ⟨⟨by decide +kernel, by decide +kernel⟩, List.mem_of_getElem? (i := 111) (by decide +kernel), List.mem_of_getElem? (i := 482) (by decide +kernel), List.mem_of_getElem? (i := 483) (by decide +kernel)⟩
theorem lw_p44 : lw_okq (⟨"BrinePans", "weigh", "(III)V"⟩, 11) := ⟨⟨by decide +kernel, by decide +kernel⟩, List.mem_of_getElem? (i := 11) (by decide +kernel), List.mem_of_getElem? (i := 492) (by decide +kernel), List.mem_of_getElem? (i := 493) (by decide +kernel)⟩
theorem lw_p45 : lw_okq (⟨"BrinePans", "isAtRest", "(I)Z"⟩, 11) := ⟨⟨by decide +kernel, by decide +kernel⟩, List.mem_of_getElem? (i := 11) (by decide +kernel), List.mem_of_getElem? (i := 497) (by decide +kernel), List.mem_of_getElem? (i := 498) (by decide +kernel)⟩
theorem lw_p46 : lw_okq (⟨"BrinePans$Pans", "befall", "(I)V"⟩, 6) := ⟨⟨by decide +kernel, by decide +kernel⟩, List.mem_of_getElem? (i := 59) (by decide +kernel), List.mem_of_getElem? (i := 516) (by decide +kernel), List.mem_of_getElem? (i := 517) (by decide +kernel)⟩
theorem lw_p47 : lw_okq (⟨"BrinePansModel", "readMarsh", "()I"⟩, 31) := ⟨⟨by decide +kernel, by decide +kernel⟩, List.mem_of_getElem? (i := 528) (by decide +kernel), List.mem_of_getElem? (i := 644) (by decide +kernel), List.mem_of_getElem? (i := 645) (by decide +kernel)⟩
def lw_privs_3 : List (MethodName × Nat) := [(⟨"BrinePans$Acts", "add", "(LBrinePans$Pans;)V"⟩, 3), (⟨"BrinePans$Pans", "takeSea", "(I)I"⟩, 6), (⟨"BrinePans$Pans", "turnGate", "(I)I"⟩, 6), (⟨"BrinePans$Pans", "setGate", "(IZ)V"⟩, 6), (⟨"BrinePans$Pans", "rakeUp", "(I)I"⟩, 6), (⟨"BrinePans$Acts", "takeBack", "(LBrinePans$Pans;)I"⟩, 3), (⟨"BrinePans$Pans", "passDays", "(I)V"⟩, 6), (⟨"BrinePans$Pans", "crustBehind", "(I)I"⟩, 6), (⟨"BrinePans$Pans", "isDone", "(III)Z"⟩, 6), (⟨"BrinePans$Finds", "add", "(III)I"⟩, 4), (⟨"BrinePans$Finds", "clear", "()I"⟩, 4), (⟨"BrinePans$Finds", "allow", "(I)Z"⟩, 4), (⟨"BrinePans", "weigh", "(III)V"⟩, 11), (⟨"BrinePans", "isAtRest", "(I)Z"⟩, 11), (⟨"BrinePans$Pans", "befall", "(I)V"⟩, 6), (⟨"BrinePansModel", "readMarsh", "()I"⟩, 31)]
theorem lw_r3 : ∀ q ∈ lw_privs_3, lw_okq q := List.forall_mem_cons.mpr ⟨lw_p32, List.forall_mem_cons.mpr ⟨lw_p33, List.forall_mem_cons.mpr ⟨lw_p34, List.forall_mem_cons.mpr ⟨lw_p35, List.forall_mem_cons.mpr ⟨lw_p36, List.forall_mem_cons.mpr ⟨lw_p37, List.forall_mem_cons.mpr ⟨lw_p38, List.forall_mem_cons.mpr ⟨lw_p39, List.forall_mem_cons.mpr ⟨lw_p40, List.forall_mem_cons.mpr ⟨lw_p41, List.forall_mem_cons.mpr ⟨lw_p42, List.forall_mem_cons.mpr ⟨lw_p43, List.forall_mem_cons.mpr ⟨lw_p44, List.forall_mem_cons.mpr ⟨lw_p45, List.forall_mem_cons.mpr ⟨lw_p46, List.forall_mem_cons.mpr ⟨lw_p47, fun _ h => absurd h List.not_mem_nil⟩⟩⟩⟩⟩⟩⟩⟩⟩⟩⟩⟩⟩⟩⟩⟩
theorem lw_p48 : lw_okq (⟨"BrinePansModel", "readThing", "()Z"⟩, 31) := ⟨⟨by decide +kernel, by decide +kernel⟩, List.mem_of_getElem? (i := 528) (by decide +kernel), List.mem_of_getElem? (i := 648) (by decide +kernel), List.mem_of_getElem? (i := 649) (by decide +kernel)⟩
theorem lw_p49 : lw_okq (⟨"BrinePansModel", "readOnePan", "()Z"⟩, 31) := ⟨⟨by decide +kernel, by decide +kernel⟩, List.mem_of_getElem? (i := 528) (by decide +kernel), List.mem_of_getElem? (i := 652) (by decide +kernel), List.mem_of_getElem? (i := 653) (by decide +kernel)⟩
theorem lw_p50 : lw_okq (⟨"BrinePansModel", "figure", "(II)I"⟩, 31) := ⟨⟨by decide +kernel, by decide +kernel⟩, List.mem_of_getElem? (i := 528) (by decide +kernel), List.mem_of_getElem? (i := 656) (by decide +kernel), List.mem_of_getElem? (i := 657) (by decide +kernel)⟩
theorem lw_p51 : lw_okq (⟨"BrinePansModel", "readOneSky", "(Z)Z"⟩, 31) := ⟨⟨by decide +kernel, by decide +kernel⟩, List.mem_of_getElem? (i := 528) (by decide +kernel), List.mem_of_getElem? (i := 660) (by decide +kernel), List.mem_of_getElem? (i := 661) (by decide +kernel)⟩
theorem lw_p52 : lw_okq (⟨"BrinePansModel", "skyOf", "([I)I"⟩, 31) := ⟨⟨by decide +kernel, by decide +kernel⟩, List.mem_of_getElem? (i := 528) (by decide +kernel), List.mem_of_getElem? (i := 672) (by decide +kernel), List.mem_of_getElem? (i := 673) (by decide +kernel)⟩
theorem lw_p53 : lw_okq (⟨"BrinePansModel", "sumFrom", "(I)I"⟩, 31) := ⟨⟨by decide +kernel, by decide +kernel⟩, List.mem_of_getElem? (i := 528) (by decide +kernel), List.mem_of_getElem? (i := 676) (by decide +kernel), List.mem_of_getElem? (i := 677) (by decide +kernel)⟩
theorem lw_p54 : lw_okq (⟨"BrinePansModel", "crustOfAll", "([I)I"⟩, 31) := ⟨⟨by decide +kernel, by decide +kernel⟩, List.mem_of_getElem? (i := 528) (by decide +kernel), List.mem_of_getElem? (i := 680) (by decide +kernel), List.mem_of_getElem? (i := 681) (by decide +kernel)⟩
theorem lw_p55 : lw_okq (⟨"BrinePansModel", "ripeOnes", "([I)I"⟩, 31) := ⟨⟨by decide +kernel, by decide +kernel⟩, List.mem_of_getElem? (i := 528) (by decide +kernel), List.mem_of_getElem? (i := 690) (by decide +kernel), List.mem_of_getElem? (i := 691) (by decide +kernel)⟩
theorem lw_p56 : lw_okq (⟨"BrinePansModel", "noPan", "(I)Z"⟩, 31) := ⟨⟨by decide +kernel, by decide +kernel⟩, List.mem_of_getElem? (i := 528) (by decide +kernel), List.mem_of_getElem? (i := 701) (by decide +kernel), List.mem_of_getElem? (i := 702) (by decide +kernel)⟩
theorem lw_p57 : lw_okq (⟨"BrinePansModel", "room", "([II)I"⟩, 31) := ⟨⟨by decide +kernel, by decide +kernel⟩, List.mem_of_getElem? (i := 528) (by decide +kernel), List.mem_of_getElem? (i := 705) (by decide +kernel), List.mem_of_getElem? (i := 706) (by decide +kernel)⟩
theorem lw_p58 : lw_okq (⟨"BrinePansModel", "note", "()V"⟩, 31) := ⟨⟨by decide +kernel, by decide +kernel⟩, List.mem_of_getElem? (i := 528) (by decide +kernel), List.mem_of_getElem? (i := 713) (by decide +kernel), List.mem_of_getElem? (i := 714) (by decide +kernel)⟩
theorem lw_p59 : lw_okq (⟨"BrinePansModel", "goDay", "([IZ)V"⟩, 31) := ⟨⟨by decide +kernel, by decide +kernel⟩, List.mem_of_getElem? (i := 528) (by decide +kernel), List.mem_of_getElem? (i := 717) (by decide +kernel), List.mem_of_getElem? (i := 718) (by decide +kernel)⟩
theorem lw_p60 : lw_okq (⟨"BrinePansModel", "weather", "([III)V"⟩, 31) := ⟨⟨by decide +kernel, by decide +kernel⟩, List.mem_of_getElem? (i := 528) (by decide +kernel), List.mem_of_getElem? (i := 733) (by decide +kernel), List.mem_of_getElem? (i := 734) (by decide +kernel)⟩
theorem lw_p61 : lw_okq (⟨"BrinePansModel", "noGate", "(I)Z"⟩, 31) := ⟨⟨by decide +kernel, by decide +kernel⟩, List.mem_of_getElem? (i := 528) (by decide +kernel), List.mem_of_getElem? (i := 749) (by decide +kernel), List.mem_of_getElem? (i := 750) (by decide +kernel)⟩
theorem lw_p62 : lw_okq (⟨"BrinePansModel", "begin", "()V"⟩, 31) := ⟨⟨by decide +kernel, by decide +kernel⟩, List.mem_of_getElem? (i := 528) (by decide +kernel), List.mem_of_getElem? (i := 774) (by decide +kernel), List.mem_of_getElem? (i := 775) (by decide +kernel)⟩
theorem lw_p63 : lw_okq (⟨"BrinePansModel", "goDays", "([II)V"⟩, 31) := ⟨⟨by decide +kernel, by decide +kernel⟩, List.mem_of_getElem? (i := 528) (by decide +kernel), List.mem_of_getElem? (i := 778) (by decide +kernel), List.mem_of_getElem? (i := 779) (by decide +kernel)⟩
def lw_privs_4 : List (MethodName × Nat) := [(⟨"BrinePansModel", "readThing", "()Z"⟩, 31), (⟨"BrinePansModel", "readOnePan", "()Z"⟩, 31), (⟨"BrinePansModel", "figure", "(II)I"⟩, 31), (⟨"BrinePansModel", "readOneSky", "(Z)Z"⟩, 31), (⟨"BrinePansModel", "skyOf", "([I)I"⟩, 31), (⟨"BrinePansModel", "sumFrom", "(I)I"⟩, 31), (⟨"BrinePansModel", "crustOfAll", "([I)I"⟩, 31), (⟨"BrinePansModel", "ripeOnes", "([I)I"⟩, 31), (⟨"BrinePansModel", "noPan", "(I)Z"⟩, 31), (⟨"BrinePansModel", "room", "([II)I"⟩, 31), (⟨"BrinePansModel", "note", "()V"⟩, 31), (⟨"BrinePansModel", "goDay", "([IZ)V"⟩, 31), (⟨"BrinePansModel", "weather", "([III)V"⟩, 31), (⟨"BrinePansModel", "noGate", "(I)Z"⟩, 31), (⟨"BrinePansModel", "begin", "()V"⟩, 31), (⟨"BrinePansModel", "goDays", "([II)V"⟩, 31)]
theorem lw_r4 : ∀ q ∈ lw_privs_4, lw_okq q := List.forall_mem_cons.mpr ⟨lw_p48, List.forall_mem_cons.mpr ⟨lw_p49, List.forall_mem_cons.mpr ⟨lw_p50, List.forall_mem_cons.mpr ⟨lw_p51, List.forall_mem_cons.mpr ⟨lw_p52, List.forall_mem_cons.mpr ⟨lw_p53, List.forall_mem_cons.mpr ⟨lw_p54, List.forall_mem_cons.mpr ⟨lw_p55, List.forall_mem_cons.mpr ⟨lw_p56, List.forall_mem_cons.mpr ⟨lw_p57, List.forall_mem_cons.mpr ⟨lw_p58, List.forall_mem_cons.mpr ⟨lw_p59, List.forall_mem_cons.mpr ⟨lw_p60, List.forall_mem_cons.mpr ⟨lw_p61, List.forall_mem_cons.mpr ⟨lw_p62, List.forall_mem_cons.mpr ⟨lw_p63, fun _ h => absurd h List.not_mem_nil⟩⟩⟩⟩⟩⟩⟩⟩⟩⟩⟩⟩⟩⟩⟩⟩
theorem lw_p64 : lw_okq (⟨"BrinePansModel", "findBest", "(I)V"⟩, 31) := ⟨⟨by decide +kernel, by decide +kernel⟩, List.mem_of_getElem? (i := 528) (by decide +kernel), List.mem_of_getElem? (i := 794) (by decide +kernel), List.mem_of_getElem? (i := 795) (by decide +kernel)⟩
theorem lw_p65 : lw_okq (⟨"BrinePansModel", "does", "(I)Z"⟩, 31) := ⟨⟨by decide +kernel, by decide +kernel⟩, List.mem_of_getElem? (i := 528) (by decide +kernel), List.mem_of_getElem? (i := 815) (by decide +kernel), List.mem_of_getElem? (i := 816) (by decide +kernel)⟩
theorem lw_p66 : lw_okq (⟨"BrinePansModel", "seas", "(I)Z"⟩, 31) := ⟨⟨by decide +kernel, by decide +kernel⟩, List.mem_of_getElem? (i := 528) (by decide +kernel), List.mem_of_getElem? (i := 819) (by decide +kernel), List.mem_of_getElem? (i := 820) (by decide +kernel)⟩
theorem lw_p67 : lw_okq (⟨"BrinePansModel", "lets", "(II)Z"⟩, 31) := ⟨⟨by decide +kernel, by decide +kernel⟩, List.mem_of_getElem? (i := 528) (by decide +kernel), List.mem_of_getElem? (i := 823) (by decide +kernel), List.mem_of_getElem? (i := 824) (by decide +kernel)⟩
theorem lw_p68 : lw_okq (⟨"BrinePansModel", "turns", "(I)Z"⟩, 31) := ⟨⟨by decide +kernel, by decide +kernel⟩, List.mem_of_getElem? (i := 528) (by decide +kernel), List.mem_of_getElem? (i := 827) (by decide +kernel), List.mem_of_getElem? (i := 828) (by decide +kernel)⟩
theorem lw_p69 : lw_okq (⟨"BrinePansModel", "rakes", "(I)Z"⟩, 31) := ⟨⟨by decide +kernel, by decide +kernel⟩, List.mem_of_getElem? (i := 528) (by decide +kernel), List.mem_of_getElem? (i := 831) (by decide +kernel), List.mem_of_getElem? (i := 832) (by decide +kernel)⟩
theorem lw_p70 : lw_okq (⟨"BrinePansModel", "lay", "(II)V"⟩, 31) := ⟨⟨by decide +kernel, by decide +kernel⟩, List.mem_of_getElem? (i := 528) (by decide +kernel), List.mem_of_getElem? (i := 865) (by decide +kernel), List.mem_of_getElem? (i := 866) (by decide +kernel)⟩
def lw_privs_5 : List (MethodName × Nat) := [(⟨"BrinePansModel", "findBest", "(I)V"⟩, 31), (⟨"BrinePansModel", "does", "(I)Z"⟩, 31), (⟨"BrinePansModel", "seas", "(I)Z"⟩, 31), (⟨"BrinePansModel", "lets", "(II)Z"⟩, 31), (⟨"BrinePansModel", "turns", "(I)Z"⟩, 31), (⟨"BrinePansModel", "rakes", "(I)Z"⟩, 31), (⟨"BrinePansModel", "lay", "(II)V"⟩, 31)]
theorem lw_r5 : ∀ q ∈ lw_privs_5, lw_okq q := List.forall_mem_cons.mpr ⟨lw_p64, List.forall_mem_cons.mpr ⟨lw_p65, List.forall_mem_cons.mpr ⟨lw_p66, List.forall_mem_cons.mpr ⟨lw_p67, List.forall_mem_cons.mpr ⟨lw_p68, List.forall_mem_cons.mpr ⟨lw_p69, List.forall_mem_cons.mpr ⟨lw_p70, fun _ h => absurd h List.not_mem_nil⟩⟩⟩⟩⟩⟩⟩
def lw_privs : List (MethodName × Nat) := lw_privs_1 ++ (lw_privs_2 ++ (lw_privs_3 ++ (lw_privs_4 ++ (lw_privs_5))))
def lw_tbl : List Cond := k2_sels lw_privs ++ tables_1
theorem lw_privs_ok : ∀ q ∈ lw_privs, lw_okq q := by
  show ∀ q ∈ lw_privs_1 ++ (lw_privs_2 ++ (lw_privs_3 ++ (lw_privs_4 ++ (lw_privs_5)))), lw_okq q
  exact List.forall_mem_append.mpr ⟨lw_r1, List.forall_mem_append.mpr ⟨lw_r2, List.forall_mem_append.mpr ⟨lw_r3, List.forall_mem_append.mpr ⟨lw_r4, lw_r5⟩⟩⟩⟩
end
section
/-! own frame: an abstract heap of whole numbers with fixed shapes, and a judgement over it -/
abbrev HI : Type := Nat → Nat → Int32
abbrev HL : Type := Nat → Int64
abbrev Out : Type := Option Value × HI × HL
def up (X : HI) (a k : Nat) (v : Int32) : HI := fun b => if b = a then upd (X a) k v else X b
def upY (Y : HL) (a : Nat) (v : Int64) : HL := fun b => if b = a then v else Y b
-- classes
abbrev cAct : String := "BrinePans$Acts"
abbrev cFin : String := "BrinePans$Finds"
abbrev cGro : String := "BrinePans$Ground"
abbrev cPan : String := "BrinePans$Pans"
abbrev cTxt : String := "BrinePans$Text"
abbrev cBri : String := "BrinePans"
abbrev cMod : String := "BrinePansModel"
def tAct : u_T := fun k => match k with
  | 0 => ("BrinePans$Acts", "before", "[LBrinePans$Pans;", true)
  | 1 => ("BrinePans$Acts", "next", "I", false)
  | _ => ("BrinePans$Acts", "count", "I", false)
def tFin : u_T := fun k => match k with
  | 0 => ("BrinePans$Finds", "water", "[I", true)
  | 1 => ("BrinePans$Finds", "crusts", "[I", true)
  | 2 => ("BrinePans$Finds", "isMore", "[Z", true)
  | _ => ("BrinePans$Finds", "count", "I", false)
def tGro : u_T := fun k => match k with
  | 0 => ("BrinePans$Ground", "kinds", "[I", true)
  | 1 => ("BrinePans$Ground", "sky", "[I", true)
  | 2 => ("BrinePans$Ground", "pans", "I", false)
  | _ => ("BrinePans$Ground", "skies", "I", false)
def tPan : u_T := fun k => match k with
  | 0 => ("BrinePans$Pans", "ground", "LBrinePans$Ground;", true)
  | 1 => ("BrinePans$Pans", "water", "[I", true)
  | 2 => ("BrinePans$Pans", "salt", "[I", true)
  | 3 => ("BrinePans$Pans", "open", "I", false)
  | 4 => ("BrinePans$Pans", "heap", "I", false)
  | _ => ("BrinePans$Pans", "day", "I", false)
def tTxt : u_T := fun k => match k with
  | 0 => ("BrinePans$Text", "letters", "[I", true)
  | _ => ("BrinePans$Text", "length", "I", false)
def tBri : u_T := fun k => match k with
  | 0 => ("BrinePans", "text", "LBrinePans$Text;", true)
  | 1 => ("BrinePans", "ground", "LBrinePans$Ground;", true)
  | 2 => ("BrinePans", "now", "LBrinePans$Pans;", true)
  | 3 => ("BrinePans", "trial", "LBrinePans$Pans;", true)
  | 4 => ("BrinePans", "acts", "LBrinePans$Acts;", true)
  | 5 => ("BrinePans", "finds", "LBrinePans$Finds;", true)
  | 6 => ("BrinePans", "slots", "[LBrinePans$Pans;", true)
  | 7 => ("BrinePans", "isKept", "[Z", true)
  | 8 => ("BrinePans", "crustOfSets", "[I", true)
  | 9 => ("BrinePans", "gains", "[I", true)
  | _ => ("BrinePans", "chance", "J", false)
def tMod : u_T := fun k => match k with
  | 0 => ("BrinePansModel", "thrown", "I", false)
  | 1 => ("BrinePansModel", "text", "[I", true)
  | 2 => ("BrinePansModel", "textSize", "I", false)
  | 3 => ("BrinePansModel", "place", "I", false)
  | 4 => ("BrinePansModel", "pans", "I", false)
  | 5 => ("BrinePansModel", "kind", "[I", true)
  | 6 => ("BrinePansModel", "skies", "I", false)
  | 7 => ("BrinePansModel", "sky", "[I", true)
  | 8 => ("BrinePansModel", "readPans", "I", false)
  | 9 => ("BrinePansModel", "readPan", "[I", true)
  | 10 => ("BrinePansModel", "readSkies", "I", false)
  | 11 => ("BrinePansModel", "readSky", "[I", true)
  | 12 => ("BrinePansModel", "page", "[I", true)
  | 13 => ("BrinePansModel", "trial", "[I", true)
  | 14 => ("BrinePansModel", "book", "[I", true)
  | 15 => ("BrinePansModel", "acts", "I", false)
  | 16 => ("BrinePansModel", "kept", "[I", true)
  | 17 => ("BrinePansModel", "isKept", "[Z", true)
  | 18 => ("BrinePansModel", "found", "I", false)
  | 19 => ("BrinePansModel", "foundWater", "[I", true)
  | 20 => ("BrinePansModel", "foundCrust", "[I", true)
  | 21 => ("BrinePansModel", "foundIs", "[I", true)
  | 22 => ("BrinePansModel", "seed", "J", false)
  | 23 => ("BrinePansModel", "bestMuch", "I", false)
  | 24 => ("BrinePansModel", "bestWay", "I", false)
  | 25 => ("BrinePansModel", "saltMany", "I", false)
  | 26 => ("BrinePansModel", "saltFirst", "I", false)
  | 27 => ("BrinePansModel", "restMany", "I", false)
  | 28 => ("BrinePansModel", "restFirst", "I", false)
  | 29 => ("BrinePansModel", "gains", "[I", true)
  | _ => ("BrinePansModel", "value", "[I", true)
def yAct : Nat → FieldType := fun k => match k with
  | 0 => .array (.object "BrinePans$Pans")
  | 1 => .int
  | _ => .int
def yFin : Nat → FieldType := fun k => match k with
  | 0 => .array .int
  | 1 => .array .int
  | 2 => .array .boolean
  | _ => .int
def yGro : Nat → FieldType := fun k => match k with
  | 0 => .array .int
  | 1 => .array .int
  | 2 => .int
  | _ => .int
def yPan : Nat → FieldType := fun k => match k with
  | 0 => .object "BrinePans$Ground"
  | 1 => .array .int
  | 2 => .array .int
  | 3 => .int
  | 4 => .int
  | _ => .int
def yTxt : Nat → FieldType := fun k => match k with
  | 0 => .array .int
  | _ => .int
def yBri : Nat → FieldType := fun k => match k with
  | 0 => .object "BrinePans$Text"
  | 1 => .object "BrinePans$Ground"
  | 2 => .object "BrinePans$Pans"
  | 3 => .object "BrinePans$Pans"
  | 4 => .object "BrinePans$Acts"
  | 5 => .object "BrinePans$Finds"
  | 6 => .array (.object "BrinePans$Pans")
  | 7 => .array .boolean
  | 8 => .array .int
  | 9 => .array .int
  | _ => .long
def yMod : Nat → FieldType := fun k => match k with
  | 0 => .int
  | 1 => .array .int
  | 2 => .int
  | 3 => .int
  | 4 => .int
  | 5 => .array .int
  | 6 => .int
  | 7 => .array .int
  | 8 => .int
  | 9 => .array .int
  | 10 => .int
  | 11 => .array .int
  | 12 => .array .int
  | 13 => .array .int
  | 14 => .array .int
  | 15 => .int
  | 16 => .array .int
  | 17 => .array .boolean
  | 18 => .int
  | 19 => .array .int
  | 20 => .array .int
  | 21 => .array .int
  | 22 => .long
  | 23 => .int
  | 24 => .int
  | 25 => .int
  | 26 => .int
  | 27 => .int
  | 28 => .int
  | 29 => .array .int
  | _ => .array .int
abbrev classes : List vw_C := [(cAct, tAct, 3), (cFin, tFin, 4), (cGro, tGro, 4), (cPan, tPan, 6), (cTxt, tTxt, 2), (cBri, tBri, 11), (cMod, tMod, 31)]
end
section
/-! the fixed world: cells by number, their shapes, where they lie -/
def kd (a : Nat) : Nat × Nat :=
  if a = 0 then (0, 5) else if a = 1 then (0, 4) else if a = 2 then (1, 36) else if a = 3 then (0, 2) else if a = 4 then (1, 6) else if a = 5 then (1, 5)
  else if a = 6 then (0, 0) else if a = 7 then (3, 14) else if a = 8 then (0, 1) else if a = 9 then (1, 6) else if a = 10 then (1, 6) else if a = 11 then (2, 6)
  else if a = 12 then (3, 2) else if a = 13 then (2, 2) else if a = 14 then (1, 64) else if a = 15 then (1, 8)
  else if a < 70 then (if (a - 16) % 3 = 0 then (0, 3) else (1, 6))
  else if a = 70 then (0, 6) else if a = 71 then (1, 36) else if a = 72 then (1, 6) else if a = 73 then (1, 5) else if a = 74 then (1, 18) else if a = 75 then (1, 5) else if a = 76 then (1, 15) else if a = 77 then (1, 15) else if a = 78 then (1, 210) else if a = 79 then (1, 30) else if a = 80 then (2, 2) else if a = 81 then (1, 6) else if a = 82 then (1, 6) else if a = 83 then (1, 6) else if a = 84 then (1, 8) else (1, 64)
def rA (a i : Nat) : Nat := if a = 7 then 28 + 3 * i else 22 + 3 * i
def fB (x : Nat → Int32) (y : Int64) (a : Nat) : List Value :=
  if a = 0 then [.ref 1, .ref 3, .ref 16, .ref 19, .ref 6, .ref 8, .ref 12, .ref 13, .ref 14, .ref 15, .long y]
  else if a = 1 then [.ref 2, .int (x 1)]
  else if a = 3 then [.ref 4, .ref 5, .int (x 2), .int (x 3)]
  else if a = 6 then [.ref 7, .int (x 1), .int (x 2)]
  else if a = 8 then [.ref 9, .ref 10, .ref 11, .int (x 3)]
  else if a = 70 then [.int (x 0), .ref 71, .int (x 2), .int (x 3), .int (x 4), .ref 72, .int (x 6), .ref 73, .int (x 8), .ref 74, .int (x 10), .ref 75, .ref 76, .ref 77, .ref 78, .int (x 15), .ref 79, .ref 80, .int (x 18), .ref 81, .ref 82, .ref 83, .long y, .int (x 23), .int (x 24), .int (x 25), .int (x 26), .int (x 27), .int (x 28), .ref 84, .ref 85]
  else [.ref 3, .ref (a + 1), .ref (a + 2), .int (x 3), .int (x 4), .int (x 5)]
/-- where all lies: field places, addresses, what may change, the three array classes, the static arrays and the script -/
abbrev KK : Type := va_G × ((Nat → Nat) × ((Nat → Prop) × ((ClassId × (ClassId × ClassId)) × (Nat → Nat))))
def kD (K : KK) : va_G := K.1
def kad (K : KK) : Nat → Nat := K.2.1
def kA (K : KK) : Nat → Prop := K.2.2.1
def kI (K : KK) : ClassId := K.2.2.2.1.1
def kZ (K : KK) : ClassId := K.2.2.2.1.2.1
def kP (K : KK) : ClassId := K.2.2.2.1.2.2
def kts (K : KK) : Nat → Nat := K.2.2.2.2
def kT (K : KK) : List (ClassId × FieldType) := [(kI K, .int), (kZ K, .boolean), (kP K, .object "BrinePans$Pans")]
def trV (K : KK) (v : Value) : Value := match v with
  | .ref a => .ref (kad K a)
  | .float x => .ref (kts K x.toNat)
  | v => v
theorem trV_cat (K : KK) (v : Value) : (trV K v).category = v.category := by cases v <;> rfl
def cB (K : KK) (x : Nat → Int32) (y : Int64) (a : Nat) : va_E := match (kd a).1 with
  | 0 => .inr ((kd a).2, (fB x y a).map (trV K))
  | 1 => .inl (kI K, (kd a).2, .inl x)
  | 2 => .inl (kZ K, (kd a).2, .inl x)
  | _ => .inl (kP K, (kd a).2, .inr (.inr (.inr (.inr (fun i => some (kad K (rA a i)))))))
theorem cB_o {K : KK} {x : Nat → Int32} {y : Int64} {a ci : Nat} (h : kd a = (0, ci)) : cB K x y a = .inr (ci, (fB x y a).map (trV K)) := by simp only [cB, h]
theorem cB_i {K : KK} {x : Nat → Int32} {y : Int64} {a n : Nat} (h : kd a = (1, n)) : cB K x y a = .inl (kI K, n, .inl x) := by simp only [cB, h]
theorem cB_z {K : KK} {x : Nat → Int32} {y : Int64} {a n : Nat} (h : kd a = (2, n)) : cB K x y a = .inl (kZ K, n, .inl x) := by simp only [cB, h]
theorem cB_r {K : KK} {x : Nat → Int32} {y : Int64} {a n : Nat} (h : kd a = (3, n)) : cB K x y a = .inl (kP K, n, .inr (.inr (.inr (.inr (fun i => some (kad K (rA a i))))))) := by simp only [cB, h]
def wsOf (K : KK) (X : HI) (Y : HL) : va_W := (List.range 86).map (fun a => (kad K a, cB K (X a) (Y a) a))
theorem ws_at {K : KK} {X : HI} {Y : HL} {a : Nat} (h : a < 86) : (wsOf K X Y)[a]? = some (kad K a, cB K (X a) (Y a) a) := by simp [wsOf, h]
theorem ws_of {K : KK} {X : HI} {Y : HL} {a : Nat} {q : Nat × va_E} (h : (wsOf K X Y)[a]? = some q) : a < 86 ∧ q = (kad K a, cB K (X a) (Y a) a) := by
  have hl : a < 86 := by
    have := (List.getElem?_eq_some_iff.mp h).1
    simpa [wsOf] using this
  rw [ws_at hl] at h
  exact ⟨hl, (Option.some.inj h).symm⟩
theorem ws_set {K : KK} {X X' : HI} {Y Y' : HL} {a : Nat} (h : a < 86) (hX : ∀ b, b ≠ a → X' b = X b) (hY : ∀ b, b ≠ a → Y' b = Y b) : (wsOf K X Y).set a (kad K a, cB K (X' a) (Y' a) a) = wsOf K X' Y' := by
  apply List.ext_getElem?
  intro i
  by_cases hi : i = a
  · subst hi
    rw [List.getElem?_set_self (by simp [wsOf, h]), ws_at h]
  · rw [List.getElem?_set_ne (Ne.symm hi)]
    by_cases h8 : i < 86
    · rw [ws_at h8, ws_at h8, hX i hi, hY i hi]
    · rw [List.getElem?_eq_none (by simp [wsOf]; omega), List.getElem?_eq_none (by simp [wsOf]; omega)]
theorem up_self (X : HI) (a k : Nat) (v : Int32) : up X a k v a = upd (X a) k v := if_pos rfl
theorem up_ne (X : HI) {a b : Nat} (k : Nat) (v : Int32) (h : b ≠ a) : up X a k v b = X b := if_neg h
theorem upY_self (Y : HL) (a : Nat) (v : Int64) : upY Y a v a = v := if_pos rfl
theorem upY_ne (Y : HL) {a b : Nat} (v : Int64) (h : b ≠ a) : upY Y a v b = Y b := if_neg h
theorem ws_up {K : KK} {X : HI} {Y : HL} {a k : Nat} {v : Int32} (h : a < 86) : (wsOf K X Y).set a (kad K a, cB K (upd (X a) k v) (Y a) a) = wsOf K (up X a k v) Y := by
  have e := ws_set (K := K) (X := X) (X' := up X a k v) (Y := Y) (Y' := Y) h (fun b hb => up_ne X k v hb) (fun b _ => rfl)
  rw [up_self] at e
  exact e
theorem ws_upY {K : KK} {X : HI} {Y : HL} {a : Nat} {v : Int64} (h : a < 86) : (wsOf K X Y).set a (kad K a, cB K (X a) v a) = wsOf K X (upY Y a v) := by
  have e := ws_set (K := K) (X := X) (X' := X) (Y := Y) (Y' := upY Y a v) h (fun b _ => rfl) (fun b hb => upY_ne Y v hb)
  rw [upY_self] at e
  exact e
def kOK (K : KK) : Prop := (∀ a b, a < 86 → b < 86 → kad K a = kad K b → a = b) ∧ ∀ a, a < 86 → kA K (kad K a)
theorem ws_D {K : KK} (h : kOK K) (X : HI) (Y : HL) : va_D (kA K) (wsOf K X Y) := by
  refine ⟨fun i j p q hi hj hpq => ?_, fun k q hk => ?_⟩
  · obtain ⟨a1, rfl⟩ := ws_of hi
    obtain ⟨b1, rfl⟩ := ws_of hj
    exact h.1 i j a1 b1 hpq
  · obtain ⟨a1, rfl⟩ := ws_of hk
    exact h.2 k a1
-- the words
def gw : List Cond := lw_tbl.filter goodWord
def isNest : Cond → Bool
  | .fieldLinkNest .. => true
  | .methodLinkNest .. => true
  | _ => false
def nw : List Cond := tables_1.filter isNest
theorem gw_all : ∀ w ∈ gw, (w.onTables && w.keeps) = true ∨ ∃ ty, w = .arrayClass ty := fun w h => good_of_word (List.mem_filter.mp h).2
theorem gw_t {w : Cond} (i : Nat) (h : tables_1[i]? = some w) (hg : goodWord w = true) : w ∈ gw := List.mem_filter.mpr ⟨List.mem_append_right _ (List.mem_of_getElem? h), hg⟩
theorem gw_s {w : Cond} (i : Nat) (h : (k2_sels lw_privs)[i]? = some w) (hg : goodWord w = true) : w ∈ gw := List.mem_filter.mpr ⟨List.mem_append_left _ (List.mem_of_getElem? h), hg⟩
theorem nw_t {w : Cond} (i : Nat) (h : tables_1[i]? = some w) (hg : isNest w = true) : w ∈ nw := List.mem_filter.mpr ⟨List.mem_of_getElem? h, hg⟩
def kN (U : State) : Prop := ∀ w ∈ nw, va_Nw w U
theorem kN.warm {s U : State} (hW : s.WarmedH U.vm) (h : kN s) : kN U := by
  intro w hw
  have h1 := h w hw
  have h2 := (List.mem_filter.mp hw).2
  cases w <;> first | exact va_Nw.warmF hW h1 | exact va_Nw.warmM hW h1 | (exfalso; simp [isNest] at h2)
theorem kN.same {u U : State} (hv : u.vm = U.vm) (h : kN u) : kN U := by
  intro w hw
  have h1 := h w hw
  have h2 := (List.mem_filter.mp hw).2
  cases w <;> first | exact va_Nw.same rfl hv h1 | (exfalso; simp [isNest] at h2)
def fac (j : Nat) : Int32 := match j with
  | 0 => 1
  | 1 => 1
  | 2 => 2
  | 3 => 6
  | 4 => 24
  | 5 => 120
  | _ => 720
def tho (j : Nat) : Int64 := match j with
  | 0 => 1
  | 1 => 1000
  | 2 => 1000000
  | _ => 1000000000
def kSt (K : KK) (U : State) : Prop := va_Z "BrinePans" "FACTORIALS" "[I" (.ref (kts K 1)) (kA K) U U.heap ∧ va_T .int (kts K 1) 7 (fun j => .int (fac j)) (kA K) U U.heap ∧ va_Z "BrinePans" "THOUSANDS" "[J" (.ref (kts K 2)) (kA K) U U.heap ∧ va_T .long (kts K 2) 4 (fun j => .long (tho j)) (kA K) U U.heap
theorem kSt.moved {K : KK} {s U : State} (hvm : s.vm.Alike U.vm) (hk : ∀ q : Nat, q < s.heap.size → ¬ kA K q → U.heap[q]? = s.heap[q]?) (h : kSt K s) : kSt K U :=
  ⟨(h.1.moved hvm).kept hk, (h.2.1.moved hvm).kept hk, (h.2.2.1.moved hvm).kept hk, (h.2.2.2.moved hvm).kept hk⟩
/-- the context of a running method -/
def Cx (K : KK) (own : String) (cc : ByteArray) (nL : Nat) (ret : Option FieldType) (p : Program) (s : State) (m : MethodId) (args : Array Value) (meth : Method) (c : Code) : Prop :=
  p.tables.exec = Jvm.exec ∧ c.code = cc ∧ meth.sig.returnType = ret ∧ c.maxLocals = nL ∧ s.vm.findClass own = some m.cls ∧ (∀ w ∈ gw, w.before args s = true) ∧ meth.locks = false ∧ va_K (kD K) classes (kT K) s ∧ kOK K ∧ kN s ∧ kSt K s
section CXS
variable {K : KK} {own : String} {cc : ByteArray} {nL : Nat} {ret : Option FieldType} {p : Program} {s : State} {m : MethodId} {args : Array Value} {meth : Method} {c : Code}
theorem Cx.ex (h : Cx K own cc nL ret p s m args meth c) : p.tables.exec = Jvm.exec := h.1
theorem Cx.co (h : Cx K own cc nL ret p s m args meth c) : c.code = cc := h.2.1
theorem Cx.re (h : Cx K own cc nL ret p s m args meth c) : meth.sig.returnType = ret := h.2.2.1
theorem Cx.ml (h : Cx K own cc nL ret p s m args meth c) : c.maxLocals = nL := h.2.2.2.1
theorem Cx.ow (h : Cx K own cc nL ret p s m args meth c) : s.vm.findClass own = some m.cls := h.2.2.2.2.1
theorem Cx.ts (h : Cx K own cc nL ret p s m args meth c) : ∀ w ∈ gw, w.before args s = true := h.2.2.2.2.2.1
theorem Cx.lk (h : Cx K own cc nL ret p s m args meth c) : meth.locks = false := h.2.2.2.2.2.2.1
theorem Cx.ka (h : Cx K own cc nL ret p s m args meth c) : va_K (kD K) classes (kT K) s := h.2.2.2.2.2.2.2.1
theorem Cx.ok (h : Cx K own cc nL ret p s m args meth c) : kOK K := h.2.2.2.2.2.2.2.2.1
theorem Cx.ne (h : Cx K own cc nL ret p s m args meth c) : kN s := h.2.2.2.2.2.2.2.2.2.1
theorem Cx.st (h : Cx K own cc nL ret p s m args meth c) : kSt K s := h.2.2.2.2.2.2.2.2.2.2
end CXS
-- locals
def Lp (K : KK) : Nat → List (Option Value) → List (Nat × Value)
  | _, [] => []
  | i, none :: t => Lp K (i + 1) t
  | i, some v :: t => (i, trV K v) :: Lp K (i + 1) t
theorem Lp_iff {K : KK} : ∀ (L : List (Option Value)) (i : Nat) (q : Nat × Value), q ∈ Lp K i L ↔ ∃ k v, L[k]? = some (some v) ∧ q = (i + k, trV K v)
  | [], i, q => by simp [Lp]
  | none :: t, i, q => by
    rw [Lp, Lp_iff t (i + 1) q]
    constructor
    · rintro ⟨k, v, h1, h2⟩
      exact ⟨k + 1, v, by simpa using h1, by rw [h2]; congr 1; omega⟩
    · rintro ⟨k, v, h1, h2⟩
      cases k with
      | zero => simp at h1
      | succ k => exact ⟨k, v, by simpa using h1, by rw [h2]; congr 1; omega⟩
  | some w :: t, i, q => by
    rw [Lp, List.mem_cons, Lp_iff t (i + 1) q]
    constructor
    · rintro (h | ⟨k, v, h1, h2⟩)
      · exact ⟨0, w, rfl, by rw [h]; rfl⟩
      · exact ⟨k + 1, v, by simpa using h1, by rw [h2]; congr 1; omega⟩
    · rintro ⟨k, v, h1, h2⟩
      cases k with
      | zero => left; simp at h1; rw [h2, h1]; rfl
      | succ k => right; exact ⟨k, v, by simpa using h1, by rw [h2]; congr 1; omega⟩
def lvs (K : KK) (ls : Array Slot) (nL : Nat) (L : List (Option Value)) : Prop := lv_has ls nL (Lp K 0 L)
theorem lvs.at {K : KK} {ls : Array Slot} {nL : Nat} {L : List (Option Value)} (h : lvs K ls nL L) {i : Nat} {v : Value} (hv : L[i]? = some (some v)) : ls[i]? = some (.val (trV K v)) :=
  h.2.2 (i, trV K v) ((Lp_iff L 0 _).mpr ⟨i, v, hv, by rw [Nat.zero_add]⟩)
theorem lv_mono {ls : Array Slot} {nL : Nat} {l l' : List (Nat × Value)} (h : lv_has ls nL l) (hs : ∀ q ∈ l', q ∈ l) : lv_has ls nL l' := ⟨h.1, h.2.1, fun q hq => h.2.2 q (hs q hq)⟩
def subL : List (Option Value) → List (Option Value) → Prop
  | [], _ => True
  | none :: t', [] => subL t' []
  | none :: t', _ :: t => subL t' t
  | some v :: t', w :: t => w = some v ∧ subL t' t
  | some _ :: _, [] => False
theorem subL_at : ∀ (L' L : List (Option Value)), subL L' L → ∀ (k : Nat) (v : Value), L'[k]? = some (some v) → L[k]? = some (some v)
  | [], _, _, k, v, h => by simp at h
  | none :: t', _ :: t, hs, k, v, h => by
    cases k with
    | zero => simp at h
    | succ k => simpa using subL_at t' t hs k v (by simpa using h)
  | some w :: t', u :: t, hs, k, v, h => by
    cases k with
    | zero => simp at h; subst h; simpa using hs.1
    | succ k => simpa using subL_at t' t hs.2 k v (by simpa using h)
  | none :: t', [], hs, k, v, h => by
    cases k with
    | zero => simp at h
    | succ k => have := subL_at t' [] hs k v (by simpa using h); simp at this
  | some _ :: _, [], hs, _, _, _ => absurd hs (by simp [subL])
theorem lvs.sub {K : KK} {ls : Array Slot} {nL : Nat} {L L' : List (Option Value)} (h : lvs K ls nL L) (hs : subL L' L) : lvs K ls nL L' :=
  lv_mono h (fun q hq => by
    obtain ⟨k, v, h1, h2⟩ := (Lp_iff L' 0 q).mp hq
    exact (Lp_iff L 0 q).mpr ⟨k, v, subL_at L' L hs k v h1, h2⟩)
def okS (L : List (Option Value)) (i : Nat) : Bool := match i with
  | 0 => true
  | j + 1 => match L[j]? with
    | some (some w) => w.category == 1
    | _ => true
theorem okS_of {L : List (Option Value)} {i k : Nat} {v : Value} (h : okS L i = true) (hk : L[k]? = some (some v)) (hi : k + 1 = i) : v.category = 1 := by
  subst hi
  simp only [okS, hk] at h
  simpa using h
theorem st1 {K : KK} {L : List (Option Value)} {i : Nat} {v : Value} (hok : okS L i = true) : ∀ q ∈ Lp K 0 (L.set i (some v)), q ∈ (i, trV K v) :: (Lp K 0 L).filter (fun q => !(q.1 == i) && !(q.1 + 1 == i && q.2.category == 2)) := by
  intro q hq
  obtain ⟨k, w, h1, h2⟩ := (Lp_iff _ 0 q).mp hq
  rw [Nat.zero_add] at h2
  by_cases hk : k = i
  · subst hk
    rw [List.getElem?_set_self (by have := (List.getElem?_eq_some_iff.mp h1).1; simpa using this)] at h1
    cases h1
    rw [h2]; exact List.mem_cons_self
  · rw [List.getElem?_set_ne (Ne.symm hk)] at h1
    refine List.mem_cons_of_mem _ (List.mem_filter.mpr ⟨(Lp_iff L 0 q).mpr ⟨k, w, h1, by rw [Nat.zero_add]; exact h2⟩, ?_⟩)
    rw [h2]
    simp only [Bool.and_eq_true, Bool.not_eq_true', beq_eq_false_iff_ne, ne_eq, Bool.and_eq_false_iff]
    refine ⟨hk, ?_⟩
    by_cases h5 : k + 1 = i
    · right; rw [trV_cat, okS_of hok h1 h5]; decide
    · left; exact h5
theorem st2 {K : KK} {L : List (Option Value)} {i : Nat} {v : Value} (hok : okS L i = true) : ∀ q ∈ Lp K 0 ((L.set i (some v)).set (i + 1) none), q ∈ (i, trV K v) :: (Lp K 0 L).filter (fun q => !(q.1 == i) && (!(q.1 == i + 1) && !(q.1 + 1 == i && q.2.category == 2))) := by
  intro q hq
  obtain ⟨k, w, h1, h2⟩ := (Lp_iff _ 0 q).mp hq
  rw [Nat.zero_add] at h2
  by_cases hk1 : k = i + 1
  · subst hk1
    rw [List.getElem?_set_self (by have := (List.getElem?_eq_some_iff.mp h1).1; simpa using this)] at h1
    cases h1
  · rw [List.getElem?_set_ne (Ne.symm hk1)] at h1
    by_cases hk : k = i
    · subst hk
      rw [List.getElem?_set_self (by have := (List.getElem?_eq_some_iff.mp h1).1; simpa using this)] at h1
      cases h1
      rw [h2]; exact List.mem_cons_self
    · rw [List.getElem?_set_ne (Ne.symm hk)] at h1
      refine List.mem_cons_of_mem _ (List.mem_filter.mpr ⟨(Lp_iff L 0 q).mpr ⟨k, w, h1, by rw [Nat.zero_add]; exact h2⟩, ?_⟩)
      rw [h2]
      simp only [Bool.and_eq_true, Bool.not_eq_true', beq_eq_false_iff_ne, ne_eq, Bool.and_eq_false_iff]
      refine ⟨hk, hk1, ?_⟩
      by_cases h5 : k + 1 = i
      · right; rw [trV_cat, okS_of hok h1 h5]; decide
      · left; exact h5
end
section
/-! the judgement: from here the machine comes to an end that 'out' describes, if 'o' is 'out' -/
abbrev PZT : Type := Out → List Frame → Array Value → State → State → Prop
def JO (K : KK) (own : String) (cc : ByteArray) (nL : Nat) (ret : Option FieldType) (R : Room) (kc ns : Nat) (PZ : PZT) (pc : Nat) (L : List (Option Value)) (S : List Value) (X : HI) (Y : HL) (o : Option Out) : Prop :=
  ∀ out, o = some out → ∀ (p : Program) (l : Launch) (e : Env) (s : State) (m : MethodId) (args : Array Value) (below : List Frame) (meth : Method) (c : Code) (H : Heap) (locs : List Loc) (ls : Array Slot),
    Cx K own cc nL ret p s m args meth c → va_P (kD K) classes (wsOf K X Y) H → va_S (kA K) s.heap H locs → lvs K ls nL L →
    W p l e R s m args below meth c H locs kc ns (PZ out below args s) (F0 m pc ls (S.map (trV K)))
def QcO (K : KK) (out : Out) : Array Value → State → Outcome → State → Prop := fun _ st o t => (o = .returned (out.1.map (trV K)) ∧ va_P (kD K) classes (wsOf K out.2.1 out.2.2) t.heap) ∧ va_F (kA K) st t
def MZ (K : KK) : PZT := fun out below args s => MQ below (QcO K out) args s 0 0 (kA K)
def Pk (K : KK) (X : HI) (Y : HL) : State → Prop := fun U => va_P (kD K) classes (wsOf K X Y) U.heap ∧ va_K (kD K) classes (kT K) U ∧ kN U ∧ kSt K U
/-- a method's contract: if 'o' is 'out', it ends so -/
def CT (K : KK) (y : MethodName) (bytes : ByteArray) (maxL : Nat) (ret : Option FieldType) (rm : Room) (av : List Value) (X : HI) (Y : HL) (o : Option Out) : Prop :=
  ∀ out, o = some out → ∀ l : Launch, Met l y (.code y bytes maxL ret :: gw) rm (va_Pc (av.map (trV K)) (Pk K X Y)) (QcO K out) 0 0 (kA K)
def eL : List Value → List (Option Value)
  | [] => []
  | v :: t => if v.category = 2 then some v :: none :: eL t else some v :: eL t
theorem eL_args (K : KK) : ∀ (av : List Value) (i : Nat) (q : Nat × Value), q ∈ Lp K i (eL av) → q ∈ lv_args i (av.map (trV K))
  | [], i, q, h => by simp [eL, Lp] at h
  | v :: t, i, q, h => by
    rw [List.map_cons, lv_args, trV_cat]
    by_cases hc : v.category = 2
    · rw [eL, if_pos hc, Lp, Lp] at h
      rw [if_pos hc]
      rcases List.mem_cons.mp h with h | h
      · rw [h]; exact List.mem_cons_self
      · exact List.mem_cons_of_mem _ (eL_args K t (i + 2) q h)
    · rw [eL, if_neg hc, Lp] at h
      rw [if_neg hc]
      rcases List.mem_cons.mp h with h | h
      · rw [h]; exact List.mem_cons_self
      · exact List.mem_cons_of_mem _ (eL_args K t (i + 1) q h)
theorem ct_of {K : KK} (hK : kOK K) {y : MethodName} {bytes : ByteArray} {maxL : Nat} {ret : Option FieldType} {rm : Room} {av : List Value} {X : HI} {Y : HL} {o : Option Out} {L : List (Option Value)} (hy : plainName y.cls = true)
    (hL : subL L (eL av)) (hn : ((av.map (fun v => v.category)).sum ≤ maxL)) (h : JO K y.cls bytes maxL ret rm 0 0 (MZ K) 0 L [] X Y o) : CT K y bytes maxL ret rm av X Y o := by
  intro out ho l
  refine Met.ofW (cc := bytes) (maxL := maxL) (ret := ret) hy rfl ?_
  intro p e s m args below meth c s₁ B hml hv
  obtain ⟨rfl, hP, hKa, hN, hSt⟩ := hv
  have hts := atoms_spec (ws := .code y bytes maxL ret :: gw) B.pre
  have hown : s.vm.findClass y.cls = some m.cls := findClass_of_methodNamed B.named
  have hlen : ∀ vs : List Value, (lg_sl vs).length = (vs.map (fun v => v.category)).sum := by
    intro vs
    induction vs with
    | nil => rfl
    | cons v t ih =>
      have e : lg_sl (v :: t) = (if v.category = 2 then [.val v, .second] else [.val v]) ++ lg_sl t := rfl
      rw [e, List.length_append, ih, List.map_cons, List.sum_cons]
      rcases lv_cat v with q | q <;> simp [q]
  have hcat : ((av.map (trV K)).map (fun v => v.category)).sum = (av.map (fun v => v.category)).sum := by
    rw [List.map_map]
    congr 1
    apply List.map_congr_left
    intro v _
    exact trV_cat K v
  have hl := lv_entry (av.map (trV K)) (n := maxL) (by rw [hlen, hcat]; exact hn)
  rw [lg_entry_eq]
  have hl2 : lvs K _ maxL (eL av) := lv_mono hl (fun q hq => eL_args K av 0 q hq)
  exact h out ho p l e s m _ below meth c s.heap [] _ ⟨B.exec, B.bytes, B.returns, hml, hown, fun w hw => hts w (List.mem_cons_of_mem _ hw), B.notSynchronized, hKa, hK, hN, hSt⟩ hP va_S.rf (hl2.sub hL)
-- the words of o
def gd (b : Bool) (o : Option Out) : Option Out := match b with
  | true => o
  | false => none
def wr (b : Bool) (X : HI) (k : HI → Option Out) : Option Out := match b with
  | true => k X
  | false => none
def lt (v : Int32) (k : Int32 → Option Out) : Option Out := k v
def ltl (v : Int64) (k : Int64 → Option Out) : Option Out := k v
def lh (X : HI) (k : HI → Option Out) : Option Out := k X
def lhY (Y : HL) (k : HL → Option Out) : Option Out := k Y
def bi (o : Option Out) (k : Int32 → HI → HL → Option Out) : Option Out := match o with
  | some (some (.int r), X, Y) => k r X Y
  | _ => none
def bl (o : Option Out) (k : Int64 → HI → HL → Option Out) : Option Out := match o with
  | some (some (.long r), X, Y) => k r X Y
  | _ => none
def bv (o : Option Out) (k : HI → HL → Option Out) : Option Out := match o with
  | some (none, X, Y) => k X Y
  | _ => none
def br (n : Nat) (o : Option Out) (k : HI → HL → Option Out) : Option Out := match o with
  | some (some (.ref a), X, Y) => if a = n then k X Y else none
  | _ => none
def rI (v : Int32) (X : HI) (Y : HL) : Option Out := some (some (.int v), X, Y)
def rL (v : Int64) (X : HI) (Y : HL) : Option Out := some (some (.long v), X, Y)
def rR (v : Nat) (X : HI) (Y : HL) : Option Out := some (some (.ref v), X, Y)
def rV (X : HI) (Y : HL) : Option Out := some (none, X, Y)
def ixb (i : Int32) (n : Nat) : Bool := decide (0 ≤ i.toInt) && decide (i.toInt < n)
theorem ixb_in {i : Int32} {n : Nat} (h : ixb i n = true) : vp_in i n := by
  rw [vp_in_iff]
  simpa [ixb] using h
def nzb (i : Int32) : Bool := !(decide (i = 0))
def nzl (i : Int64) : Bool := !(decide (i = 0))
section JR
variable {K : KK} {own : String} {cc : ByteArray} {nL : Nat} {ret : Option FieldType} {R : Room} {kc ns : Nat} {PZ : PZT} {pc q : Nat} {L L' : List (Option Value)} {S : List Value} {X : HI} {Y : HL} {o o1 o2 : Option Out}
theorem j_none : JO K own cc nL ret R kc ns PZ pc L S X Y none := fun out h => by cases h
theorem j_sub (hs : subL L' L) (h : JO K own cc nL ret R kc ns PZ pc L' S X Y o) : JO K own cc nL ret R kc ns PZ pc L S X Y o :=
  fun out ho p l e s m args below meth c H locs ls C hP hS hl => h out ho p l e s m args below meth c H locs ls C hP hS (hl.sub hs)
theorem j_ite {c : Prop} [Decidable c] (h1 : c → JO K own cc nL ret R kc ns PZ pc L S X Y o1) (h2 : ¬ c → JO K own cc nL ret R kc ns PZ pc L S X Y o2) : JO K own cc nL ret R kc ns PZ pc L S X Y (if c then o1 else o2) := by
  by_cases hc : c
  · rw [if_pos hc]; exact h1 hc
  · rw [if_neg hc]; exact h2 hc
theorem j_iconst {n : Int} {v : Int32} (hd : decode cc pc = .ok (.iconst n, 1)) (hv : Int32.ofInt n = v) (hq : pc + 1 = q) (h : JO K own cc nL ret R kc ns PZ q L (.int v :: S) X Y o) : JO K own cc nL ret R kc ns PZ pc L S X Y o :=
  fun out ho p l e s m args below meth c H locs ls C hP hS hl => lv_iconst C.ex C.co hd hv (by subst hq; exact h out ho p l e s m args below meth c H locs ls C hP hS hl)
theorem j_bipush {n : Int} {v : Int32} (hd : decode cc pc = .ok (.bipush n, 2)) (hv : (Int8.ofInt n).toInt32 = v) (hq : pc + 2 = q) (h : JO K own cc nL ret R kc ns PZ q L (.int v :: S) X Y o) : JO K own cc nL ret R kc ns PZ pc L S X Y o :=
  fun out ho p l e s m args below meth c H locs ls C hP hS hl => lv_bipush C.ex C.co hd hv (by subst hq; exact h out ho p l e s m args below meth c H locs ls C hP hS hl)
theorem j_sipush {n : Int} {v : Int32} (hd : decode cc pc = .ok (.sipush n, 3)) (hv : (Int16.ofInt n).toInt32 = v) (hq : pc + 3 = q) (h : JO K own cc nL ret R kc ns PZ q L (.int v :: S) X Y o) : JO K own cc nL ret R kc ns PZ pc L S X Y o :=
  fun out ho p l e s m args below meth c H locs ls C hP hS hl => lv_sipush C.ex C.co hd hv (by subst hq; exact h out ho p l e s m args below meth c H locs ls C hP hS hl)
theorem j_lconst {n : Fin 2} {v : Int64} (hd : decode cc pc = .ok (.lconst n, 1)) (hv : Int64.ofNat (n : Nat) = v) (hq : pc + 1 = q) (h : JO K own cc nL ret R kc ns PZ q L (.long v :: S) X Y o) : JO K own cc nL ret R kc ns PZ pc L S X Y o :=
  fun out ho p l e s m args below meth c H locs ls C hP hS hl => lv_lconst C.ex C.co hd hv (by subst hq; exact h out ho p l e s m args below meth c H locs ls C hP hS hl)
theorem j_ldcw {index : Nat} {v : Int32} (hd : decode cc pc = .ok (.ldc_w index, 3)) (hw : Cond.constant own index v ∈ gw) (hq : pc + 3 = q) (h : JO K own cc nL ret R kc ns PZ q L (.int v :: S) X Y o) : JO K own cc nL ret R kc ns PZ pc L S X Y o :=
  fun out ho p l e s m args below meth c H locs ls C hP hS hl => lv_ldcw C.ex C.co C.ow (C.ts _ hw) hd (by subst hq; exact h out ho p l e s m args below meth c H locs ls C hP hS hl)
theorem j_ldc2 {index : Nat} {v : Int64} (hd : decode cc pc = .ok (.ldc2_w index, 3)) (hw : Cond.constantLong own index v ∈ gw) (hq : pc + 3 = q) (h : JO K own cc nL ret R kc ns PZ q L (.long v :: S) X Y o) : JO K own cc nL ret R kc ns PZ pc L S X Y o :=
  fun out ho p l e s m args below meth c H locs ls C hP hS hl => lv_ldc2 C.ex C.co C.ow (C.ts _ hw) hd (by subst hq; exact h out ho p l e s m args below meth c H locs ls C hP hS hl)
theorem j_iload_n {k : Fin 4} {i : Nat} {x : Int32} (hd : decode cc pc = .ok (.iload_n k, 1)) (hi : (k : Nat) = i) (hl0 : L[i]? = some (some (.int x))) (hq : pc + 1 = q) (h : JO K own cc nL ret R kc ns PZ q L (.int x :: S) X Y o) : JO K own cc nL ret R kc ns PZ pc L S X Y o :=
  fun out ho p l e s m args below meth c H locs ls C hP hS hl => lv_iload_n C.ex C.co hd hi (hl.at hl0) (by subst hq; exact h out ho p l e s m args below meth c H locs ls C hP hS hl)
theorem j_iload {i : Nat} {x : Int32} (hd : decode cc pc = .ok (.iload i, 2)) (hl0 : L[i]? = some (some (.int x))) (hq : pc + 2 = q) (h : JO K own cc nL ret R kc ns PZ q L (.int x :: S) X Y o) : JO K own cc nL ret R kc ns PZ pc L S X Y o :=
  fun out ho p l e s m args below meth c H locs ls C hP hS hl => lv_iload C.ex C.co hd (hl.at hl0) (by subst hq; exact h out ho p l e s m args below meth c H locs ls C hP hS hl)
theorem j_lload_n {k : Fin 4} {i : Nat} {x : Int64} (hd : decode cc pc = .ok (.lload_n k, 1)) (hi : (k : Nat) = i) (hl0 : L[i]? = some (some (.long x))) (hq : pc + 1 = q) (h : JO K own cc nL ret R kc ns PZ q L (.long x :: S) X Y o) : JO K own cc nL ret R kc ns PZ pc L S X Y o :=
  fun out ho p l e s m args below meth c H locs ls C hP hS hl => lv_lload_n C.ex C.co hd hi (hl.at hl0) (by subst hq; exact h out ho p l e s m args below meth c H locs ls C hP hS hl)
theorem j_lload {i : Nat} {x : Int64} (hd : decode cc pc = .ok (.lload i, 2)) (hl0 : L[i]? = some (some (.long x))) (hq : pc + 2 = q) (h : JO K own cc nL ret R kc ns PZ q L (.long x :: S) X Y o) : JO K own cc nL ret R kc ns PZ pc L S X Y o :=
  fun out ho p l e s m args below meth c H locs ls C hP hS hl => lv_lload C.ex C.co hd (hl.at hl0) (by subst hq; exact h out ho p l e s m args below meth c H locs ls C hP hS hl)
theorem j_aload_n {k : Fin 4} {i : Nat} {x : Nat} (hd : decode cc pc = .ok (.aload_n k, 1)) (hi : (k : Nat) = i) (hl0 : L[i]? = some (some (.ref x))) (hq : pc + 1 = q) (h : JO K own cc nL ret R kc ns PZ q L (.ref x :: S) X Y o) : JO K own cc nL ret R kc ns PZ pc L S X Y o :=
  fun out ho p l e s m args below meth c H locs ls C hP hS hl => lv_aload_n C.ex C.co hd hi (hl.at hl0) (by subst hq; exact h out ho p l e s m args below meth c H locs ls C hP hS hl)
theorem j_aload {i : Nat} {x : Nat} (hd : decode cc pc = .ok (.aload i, 2)) (hl0 : L[i]? = some (some (.ref x))) (hq : pc + 2 = q) (h : JO K own cc nL ret R kc ns PZ q L (.ref x :: S) X Y o) : JO K own cc nL ret R kc ns PZ pc L S X Y o :=
  fun out ho p l e s m args below meth c H locs ls C hP hS hl => lv_aload C.ex C.co hd (hl.at hl0) (by subst hq; exact h out ho p l e s m args below meth c H locs ls C hP hS hl)
theorem j_istore_n {k : Fin 4} {i : Nat} {x : Int32} (hd : decode cc pc = .ok (.istore_n k, 1)) (hi : (k : Nat) = i) (hn : i < nL) (hok : okS L i = true) (hL : L.set i (some (.int x)) = L') (hq : pc + 1 = q) (h : JO K own cc nL ret R kc ns PZ q L' S X Y o) : JO K own cc nL ret R kc ns PZ pc L (.int x :: S) X Y o :=
  fun out ho p l e s m args below meth c H locs ls C hP hS hl => lv_istore_n C.ex C.co hd hi hl hn rfl (fun ls' hl' => by subst hq; subst hL; exact h out ho p l e s m args below meth c H locs ls' C hP hS (lv_mono hl' (st1 hok)))
theorem j_istore {i : Nat} {x : Int32} (hd : decode cc pc = .ok (.istore i, 2)) (hn : i < nL) (hok : okS L i = true) (hL : L.set i (some (.int x)) = L') (hq : pc + 2 = q) (h : JO K own cc nL ret R kc ns PZ q L' S X Y o) : JO K own cc nL ret R kc ns PZ pc L (.int x :: S) X Y o :=
  fun out ho p l e s m args below meth c H locs ls C hP hS hl => lv_istore C.ex C.co hd hl hn rfl (fun ls' hl' => by subst hq; subst hL; exact h out ho p l e s m args below meth c H locs ls' C hP hS (lv_mono hl' (st1 hok)))
theorem j_astore_n {k : Fin 4} {i : Nat} {x : Nat} (hd : decode cc pc = .ok (.astore_n k, 1)) (hi : (k : Nat) = i) (hn : i < nL) (hok : okS L i = true) (hL : L.set i (some (.ref x)) = L') (hq : pc + 1 = q) (h : JO K own cc nL ret R kc ns PZ q L' S X Y o) : JO K own cc nL ret R kc ns PZ pc L (.ref x :: S) X Y o :=
  fun out ho p l e s m args below meth c H locs ls C hP hS hl => lv_astore_n C.ex C.co hd hi hl hn rfl (fun ls' hl' => by subst hq; subst hL; exact h out ho p l e s m args below meth c H locs ls' C hP hS (lv_mono hl' (st1 (v := .ref x) hok)))
theorem j_astore {i : Nat} {x : Nat} (hd : decode cc pc = .ok (.astore i, 2)) (hn : i < nL) (hok : okS L i = true) (hL : L.set i (some (.ref x)) = L') (hq : pc + 2 = q) (h : JO K own cc nL ret R kc ns PZ q L' S X Y o) : JO K own cc nL ret R kc ns PZ pc L (.ref x :: S) X Y o :=
  fun out ho p l e s m args below meth c H locs ls C hP hS hl => lv_astore C.ex C.co hd hl hn rfl (fun ls' hl' => by subst hq; subst hL; exact h out ho p l e s m args below meth c H locs ls' C hP hS (lv_mono hl' (st1 (v := .ref x) hok)))
theorem j_lstore_n {k : Fin 4} {i : Nat} {x : Int64} (hd : decode cc pc = .ok (.lstore_n k, 1)) (hi : (k : Nat) = i) (hn : i + 1 < nL) (hok : okS L i = true) (hL : (L.set i (some (.long x))).set (i + 1) none = L') (hq : pc + 1 = q) (h : JO K own cc nL ret R kc ns PZ q L' S X Y o) : JO K own cc nL ret R kc ns PZ pc L (.long x :: S) X Y o :=
  fun out ho p l e s m args below meth c H locs ls C hP hS hl => lv_lstore_n C.ex C.co hd hi hl hn rfl (fun ls' hl' => by subst hq; subst hL; exact h out ho p l e s m args below meth c H locs ls' C hP hS (lv_mono hl' (st2 hok)))
theorem j_iinc {i : Nat} {n : Int} {x d : Int32} (hd : decode cc pc = .ok (.iinc i n, 3)) (hl0 : L[i]? = some (some (.int x))) (hv : Int32.ofInt n = d) (hn : i < nL) (hok : okS L i = true) (hL : L.set i (some (.int (x + d))) = L') (hq : pc + 3 = q) (h : JO K own cc nL ret R kc ns PZ q L' S X Y o) : JO K own cc nL ret R kc ns PZ pc L S X Y o := by
  intro out ho p l e s m args below meth c H locs ls C hP hS hl
  have hm : (i, Value.int x) ∈ Lp K 0 L := (Lp_iff L 0 _).mpr ⟨i, .int x, hl0, by rw [Nat.zero_add]; rfl⟩
  obtain ⟨k, hk⟩ := List.getElem?_of_mem hm
  exact lv_iinc (v := x + d) C.ex C.co hd hl hk (by rw [hv]) hn rfl (fun ls' hl' => by subst hq; subst hL; exact h out ho p l e s m args below meth c H locs ls' C hP hS (lv_mono hl' (st1 hok)))
-- names for what is stored
theorem j_lt {v : Int32} {k : Int32 → Option Out} (h : ∀ x, JO K own cc nL ret R kc ns PZ pc L (.int x :: S) X Y (k x)) : JO K own cc nL ret R kc ns PZ pc L (.int v :: S) X Y (lt v k) := h v
theorem j_ltl {v : Int64} {k : Int64 → Option Out} (h : ∀ x, JO K own cc nL ret R kc ns PZ pc L (.long x :: S) X Y (k x)) : JO K own cc nL ret R kc ns PZ pc L (.long v :: S) X Y (ltl v k) := h v
theorem j_idiv {x y : Int32} (hd : decode cc pc = .ok (.idiv, 1)) (hq : pc + 1 = q) (h : JO K own cc nL ret R kc ns PZ q L (.int (x / y) :: S) X Y o) : JO K own cc nL ret R kc ns PZ pc L (.int y :: .int x :: S) X Y (gd (nzb y) o) := by
  intro out ho p l e s m args below meth c H locs ls C hP hS hl
  cases hb : nzb y with
  | false => rw [hb] at ho; cases ho
  | true =>
    rw [hb] at ho
    exact lv_idiv C.ex C.co hd (by simpa [nzb] using hb) (by subst hq; exact h out ho p l e s m args below meth c H locs ls C hP hS hl)
theorem j_irem {x y : Int32} (hd : decode cc pc = .ok (.irem, 1)) (hq : pc + 1 = q) (h : JO K own cc nL ret R kc ns PZ q L (.int (x - x / y * y) :: S) X Y o) : JO K own cc nL ret R kc ns PZ pc L (.int y :: .int x :: S) X Y (gd (nzb y) o) := by
  intro out ho p l e s m args below meth c H locs ls C hP hS hl
  cases hb : nzb y with
  | false => rw [hb] at ho; cases ho
  | true =>
    rw [hb] at ho
    exact lv_irem C.ex C.co hd (by simpa [nzb] using hb) (by subst hq; exact h out ho p l e s m args below meth c H locs ls C hP hS hl)
theorem j_ldiv {x y : Int64} (hd : decode cc pc = .ok (.ldiv, 1)) (hq : pc + 1 = q) (h : JO K own cc nL ret R kc ns PZ q L (.long (x / y) :: S) X Y o) : JO K own cc nL ret R kc ns PZ pc L (.long y :: .long x :: S) X Y (gd (nzl y) o) := by
  intro out ho p l e s m args below meth c H locs ls C hP hS hl
  cases hb : nzl y with
  | false => rw [hb] at ho; cases ho
  | true =>
    rw [hb] at ho
    exact lv_ldiv C.ex C.co hd (by simpa [nzl] using hb) (by subst hq; exact h out ho p l e s m args below meth c H locs ls C hP hS hl)
theorem j_lrem {x y : Int64} (hd : decode cc pc = .ok (.lrem, 1)) (hq : pc + 1 = q) (h : JO K own cc nL ret R kc ns PZ q L (.long (x - x / y * y) :: S) X Y o) : JO K own cc nL ret R kc ns PZ pc L (.long y :: .long x :: S) X Y (gd (nzl y) o) := by
  intro out ho p l e s m args below meth c H locs ls C hP hS hl
  cases hb : nzl y with
  | false => rw [hb] at ho; cases ho
  | true =>
    rw [hb] at ho
    exact lv_lrem C.ex C.co hd (by simpa [nzl] using hb) (by subst hq; exact h out ho p l e s m args below meth c H locs ls C hP hS hl)
theorem j_iadd {x y : Int32} (hd : decode cc pc = .ok (.iadd, 1)) (hq : pc + 1 = q) (h : JO K own cc nL ret R kc ns PZ q L (.int (x + y) :: S) X Y o) : JO K own cc nL ret R kc ns PZ pc L (.int y :: .int x :: S) X Y o :=
  fun out ho p l e s m args below meth c H locs ls C hP hS hl => lv_iadd C.ex C.co hd (by subst hq; exact h out ho p l e s m args below meth c H locs ls C hP hS hl)
theorem j_isub {x y : Int32} (hd : decode cc pc = .ok (.isub, 1)) (hq : pc + 1 = q) (h : JO K own cc nL ret R kc ns PZ q L (.int (x - y) :: S) X Y o) : JO K own cc nL ret R kc ns PZ pc L (.int y :: .int x :: S) X Y o :=
  fun out ho p l e s m args below meth c H locs ls C hP hS hl => lv_isub C.ex C.co hd (by subst hq; exact h out ho p l e s m args below meth c H locs ls C hP hS hl)
theorem j_imul {x y : Int32} (hd : decode cc pc = .ok (.imul, 1)) (hq : pc + 1 = q) (h : JO K own cc nL ret R kc ns PZ q L (.int (x * y) :: S) X Y o) : JO K own cc nL ret R kc ns PZ pc L (.int y :: .int x :: S) X Y o :=
  fun out ho p l e s m args below meth c H locs ls C hP hS hl => lv_imul C.ex C.co hd (by subst hq; exact h out ho p l e s m args below meth c H locs ls C hP hS hl)
theorem j_iand {x y : Int32} (hd : decode cc pc = .ok (.iand, 1)) (hq : pc + 1 = q) (h : JO K own cc nL ret R kc ns PZ q L (.int (x &&& y) :: S) X Y o) : JO K own cc nL ret R kc ns PZ pc L (.int y :: .int x :: S) X Y o :=
  fun out ho p l e s m args below meth c H locs ls C hP hS hl => lv_iand C.ex C.co hd (by subst hq; exact h out ho p l e s m args below meth c H locs ls C hP hS hl)
theorem j_ior {x y : Int32} (hd : decode cc pc = .ok (.ior, 1)) (hq : pc + 1 = q) (h : JO K own cc nL ret R kc ns PZ q L (.int (x ||| y) :: S) X Y o) : JO K own cc nL ret R kc ns PZ pc L (.int y :: .int x :: S) X Y o :=
  fun out ho p l e s m args below meth c H locs ls C hP hS hl => lv_ior C.ex C.co hd (by subst hq; exact h out ho p l e s m args below meth c H locs ls C hP hS hl)
theorem j_ixor {x y : Int32} (hd : decode cc pc = .ok (.ixor, 1)) (hq : pc + 1 = q) (h : JO K own cc nL ret R kc ns PZ q L (.int (x ^^^ y) :: S) X Y o) : JO K own cc nL ret R kc ns PZ pc L (.int y :: .int x :: S) X Y o :=
  fun out ho p l e s m args below meth c H locs ls C hP hS hl => lv_ixor C.ex C.co hd (by subst hq; exact h out ho p l e s m args below meth c H locs ls C hP hS hl)
theorem j_ishl {x y : Int32} (hd : decode cc pc = .ok (.ishl, 1)) (hq : pc + 1 = q) (h : JO K own cc nL ret R kc ns PZ q L (.int (x <<< (y &&& 31)) :: S) X Y o) : JO K own cc nL ret R kc ns PZ pc L (.int y :: .int x :: S) X Y o :=
  fun out ho p l e s m args below meth c H locs ls C hP hS hl => lv_ishl C.ex C.co hd (by subst hq; exact h out ho p l e s m args below meth c H locs ls C hP hS hl)
theorem j_ishr {x y : Int32} (hd : decode cc pc = .ok (.ishr, 1)) (hq : pc + 1 = q) (h : JO K own cc nL ret R kc ns PZ q L (.int (x >>> (y &&& 31)) :: S) X Y o) : JO K own cc nL ret R kc ns PZ pc L (.int y :: .int x :: S) X Y o :=
  fun out ho p l e s m args below meth c H locs ls C hP hS hl => lv_ishr C.ex C.co hd (by subst hq; exact h out ho p l e s m args below meth c H locs ls C hP hS hl)
theorem j_iushr {x y : Int32} (hd : decode cc pc = .ok (.iushr, 1)) (hq : pc + 1 = q) (h : JO K own cc nL ret R kc ns PZ q L (.int ((x.toUInt32 >>> (y.toUInt32 &&& Int32.toUInt32 31)).toInt32) :: S) X Y o) : JO K own cc nL ret R kc ns PZ pc L (.int y :: .int x :: S) X Y o :=
  fun out ho p l e s m args below meth c H locs ls C hP hS hl => lv_iushr C.ex C.co hd rfl (by subst hq; exact h out ho p l e s m args below meth c H locs ls C hP hS hl)
theorem j_ineg {x : Int32} (hd : decode cc pc = .ok (.ineg, 1)) (hq : pc + 1 = q) (h : JO K own cc nL ret R kc ns PZ q L (.int (-x) :: S) X Y o) : JO K own cc nL ret R kc ns PZ pc L (.int x :: S) X Y o :=
  fun out ho p l e s m args below meth c H locs ls C hP hS hl => lv_ineg C.ex C.co hd (by subst hq; exact h out ho p l e s m args below meth c H locs ls C hP hS hl)
theorem j_ladd {x y : Int64} (hd : decode cc pc = .ok (.ladd, 1)) (hq : pc + 1 = q) (h : JO K own cc nL ret R kc ns PZ q L (.long (x + y) :: S) X Y o) : JO K own cc nL ret R kc ns PZ pc L (.long y :: .long x :: S) X Y o :=
  fun out ho p l e s m args below meth c H locs ls C hP hS hl => lv_ladd C.ex C.co hd (by subst hq; exact h out ho p l e s m args below meth c H locs ls C hP hS hl)
theorem j_lsub {x y : Int64} (hd : decode cc pc = .ok (.lsub, 1)) (hq : pc + 1 = q) (h : JO K own cc nL ret R kc ns PZ q L (.long (x - y) :: S) X Y o) : JO K own cc nL ret R kc ns PZ pc L (.long y :: .long x :: S) X Y o :=
  fun out ho p l e s m args below meth c H locs ls C hP hS hl => lv_lsub C.ex C.co hd (by subst hq; exact h out ho p l e s m args below meth c H locs ls C hP hS hl)
theorem j_lmul {x y : Int64} (hd : decode cc pc = .ok (.lmul, 1)) (hq : pc + 1 = q) (h : JO K own cc nL ret R kc ns PZ q L (.long (x * y) :: S) X Y o) : JO K own cc nL ret R kc ns PZ pc L (.long y :: .long x :: S) X Y o :=
  fun out ho p l e s m args below meth c H locs ls C hP hS hl => lv_lmul C.ex C.co hd (by subst hq; exact h out ho p l e s m args below meth c H locs ls C hP hS hl)
theorem j_land {x y : Int64} (hd : decode cc pc = .ok (.land, 1)) (hq : pc + 1 = q) (h : JO K own cc nL ret R kc ns PZ q L (.long (x &&& y) :: S) X Y o) : JO K own cc nL ret R kc ns PZ pc L (.long y :: .long x :: S) X Y o :=
  fun out ho p l e s m args below meth c H locs ls C hP hS hl => lv_land C.ex C.co hd (by subst hq; exact h out ho p l e s m args below meth c H locs ls C hP hS hl)
theorem j_lor {x y : Int64} (hd : decode cc pc = .ok (.lor, 1)) (hq : pc + 1 = q) (h : JO K own cc nL ret R kc ns PZ q L (.long (x ||| y) :: S) X Y o) : JO K own cc nL ret R kc ns PZ pc L (.long y :: .long x :: S) X Y o :=
  fun out ho p l e s m args below meth c H locs ls C hP hS hl => lv_lor C.ex C.co hd (by subst hq; exact h out ho p l e s m args below meth c H locs ls C hP hS hl)
theorem j_lshl {x : Int64} {y : Int32} (hd : decode cc pc = .ok (.lshl, 1)) (hq : pc + 1 = q) (h : JO K own cc nL ret R kc ns PZ q L (.long (x <<< (y.toInt64 &&& 63)) :: S) X Y o) : JO K own cc nL ret R kc ns PZ pc L (.int y :: .long x :: S) X Y o :=
  fun out ho p l e s m args below meth c H locs ls C hP hS hl => lv_lshl C.ex C.co hd rfl (by subst hq; exact h out ho p l e s m args below meth c H locs ls C hP hS hl)
theorem j_lushr {x : Int64} {y : Int32} (hd : decode cc pc = .ok (.lushr, 1)) (hq : pc + 1 = q) (h : JO K own cc nL ret R kc ns PZ q L (.long ((x.toUInt64 >>> (y.toInt64.toUInt64 &&& Int64.toUInt64 63)).toInt64) :: S) X Y o) : JO K own cc nL ret R kc ns PZ pc L (.int y :: .long x :: S) X Y o :=
  fun out ho p l e s m args below meth c H locs ls C hP hS hl => lv_lushr C.ex C.co hd rfl (by subst hq; exact h out ho p l e s m args below meth c H locs ls C hP hS hl)
theorem j_i2l {x : Int32} (hd : decode cc pc = .ok (.i2l, 1)) (hq : pc + 1 = q) (h : JO K own cc nL ret R kc ns PZ q L (.long x.toInt64 :: S) X Y o) : JO K own cc nL ret R kc ns PZ pc L (.int x :: S) X Y o :=
  fun out ho p l e s m args below meth c H locs ls C hP hS hl => lv_i2l C.ex C.co hd rfl (by subst hq; exact h out ho p l e s m args below meth c H locs ls C hP hS hl)
theorem j_l2i {x : Int64} (hd : decode cc pc = .ok (.l2i, 1)) (hq : pc + 1 = q) (h : JO K own cc nL ret R kc ns PZ q L (.int x.toInt32 :: S) X Y o) : JO K own cc nL ret R kc ns PZ pc L (.long x :: S) X Y o :=
  fun out ho p l e s m args below meth c H locs ls C hP hS hl => lv_l2i C.ex C.co hd rfl (by subst hq; exact h out ho p l e s m args below meth c H locs ls C hP hS hl)
theorem j_lcmp {x y : Int64} (hd : decode cc pc = .ok (.lcmp, 1)) (hq : pc + 1 = q) (h : JO K own cc nL ret R kc ns PZ q L (.int (lg_cmp x y) :: S) X Y o) : JO K own cc nL ret R kc ns PZ pc L (.long y :: .long x :: S) X Y o :=
  fun out ho p l e s m args below meth c H locs ls C hP hS hl => W.lcmp C.ex C.co hd (by subst hq; exact h out ho p l e s m args below meth c H locs ls C hP hS hl)
theorem j_dup {v : Value} (hd : decode cc pc = .ok (.dup, 1)) (hv : v.category = 1) (hq : pc + 1 = q) (h : JO K own cc nL ret R kc ns PZ q L (v :: v :: S) X Y o) : JO K own cc nL ret R kc ns PZ pc L (v :: S) X Y o :=
  fun out ho p l e s m args below meth c H locs ls C hP hS hl => lv_dup C.ex C.co hd (by rw [trV_cat]; exact hv) (by subst hq; exact h out ho p l e s m args below meth c H locs ls C hP hS hl)
theorem j_dup2 {v w : Value} (hd : decode cc pc = .ok (.dup2, 1)) (hv : v.category = 1) (hw : w.category = 1) (hq : pc + 1 = q) (h : JO K own cc nL ret R kc ns PZ q L (v :: w :: v :: w :: S) X Y o) : JO K own cc nL ret R kc ns PZ pc L (v :: w :: S) X Y o :=
  fun out ho p l e s m args below meth c H locs ls C hP hS hl => lv_dup2_11 C.ex C.co hd (by rw [trV_cat]; exact hv) (by rw [trV_cat]; exact hw) (by subst hq; exact h out ho p l e s m args below meth c H locs ls C hP hS hl)
theorem j_pop {v : Value} (hd : decode cc pc = .ok (.pop, 1)) (hv : v.category = 1) (hq : pc + 1 = q) (h : JO K own cc nL ret R kc ns PZ q L S X Y o) : JO K own cc nL ret R kc ns PZ pc L (v :: S) X Y o :=
  fun out ho p l e s m args below meth c H locs ls C hP hS hl => lv_pop C.ex C.co hd (by rw [trV_cat]; exact hv) (by subst hq; exact h out ho p l e s m args below meth c H locs ls C hP hS hl)
theorem j_goto {off : Int} (hd : decode cc pc = .ok (.goto off, 3)) (hq : (pc : Int) + off = (q : Int)) (h : JO K own cc nL ret R kc ns PZ q L S X Y o) : JO K own cc nL ret R kc ns PZ pc L S X Y o :=
  fun out ho p l e s m args below meth c H locs ls C hP hS hl => lv_goto C.ex C.co hd hq (h out ho p l e s m args below meth c H locs ls C hP hS hl)
theorem j_if_eq {x : Int32} {off : Int} {t : Nat} (hd : decode cc pc = .ok (.ifCond .eq off, 3)) (ht : (pc : Int) + off = (t : Int)) (hq : pc + 3 = q) (h1 : JO K own cc nL ret R kc ns PZ t L S X Y o1) (h2 : JO K own cc nL ret R kc ns PZ q L S X Y o2) : JO K own cc nL ret R kc ns PZ pc L (.int x :: S) X Y (if x = 0 then o1 else o2) := by
  intro out ho p l e s m args below meth c H locs ls C hP hS hl
  subst hq
  exact lv_if_eq C.ex C.co hd ht (fun z => h1 out (by rw [if_pos z] at ho; exact ho) p l e s m args below meth c H locs ls C hP hS hl) (fun z => h2 out (by rw [if_neg z] at ho; exact ho) p l e s m args below meth c H locs ls C hP hS hl)
theorem j_icmp_eq {x y : Int32} {off : Int} {t : Nat} (hd : decode cc pc = .ok (.if_icmp .eq off, 3)) (ht : (pc : Int) + off = (t : Int)) (hq : pc + 3 = q) (h1 : JO K own cc nL ret R kc ns PZ t L S X Y o1) (h2 : JO K own cc nL ret R kc ns PZ q L S X Y o2) : JO K own cc nL ret R kc ns PZ pc L (.int y :: .int x :: S) X Y (if x = y then o1 else o2) := by
  intro out ho p l e s m args below meth c H locs ls C hP hS hl
  subst hq
  exact lv_icmp_eq C.ex C.co hd ht (fun z => h1 out (by rw [if_pos z] at ho; exact ho) p l e s m args below meth c H locs ls C hP hS hl) (fun z => h2 out (by rw [if_neg z] at ho; exact ho) p l e s m args below meth c H locs ls C hP hS hl)
theorem j_if_ne {x : Int32} {off : Int} {t : Nat} (hd : decode cc pc = .ok (.ifCond .ne off, 3)) (ht : (pc : Int) + off = (t : Int)) (hq : pc + 3 = q) (h1 : JO K own cc nL ret R kc ns PZ t L S X Y o1) (h2 : JO K own cc nL ret R kc ns PZ q L S X Y o2) : JO K own cc nL ret R kc ns PZ pc L (.int x :: S) X Y (if x = 0 then o2 else o1) := by
  intro out ho p l e s m args below meth c H locs ls C hP hS hl
  subst hq
  exact lv_if_ne C.ex C.co hd ht (fun z => h1 out (by rw [if_neg z] at ho; exact ho) p l e s m args below meth c H locs ls C hP hS hl) (fun z => h2 out (by rw [if_pos z] at ho; exact ho) p l e s m args below meth c H locs ls C hP hS hl)
theorem j_icmp_ne {x y : Int32} {off : Int} {t : Nat} (hd : decode cc pc = .ok (.if_icmp .ne off, 3)) (ht : (pc : Int) + off = (t : Int)) (hq : pc + 3 = q) (h1 : JO K own cc nL ret R kc ns PZ t L S X Y o1) (h2 : JO K own cc nL ret R kc ns PZ q L S X Y o2) : JO K own cc nL ret R kc ns PZ pc L (.int y :: .int x :: S) X Y (if x = y then o2 else o1) := by
  intro out ho p l e s m args below meth c H locs ls C hP hS hl
  subst hq
  exact lv_icmp_ne C.ex C.co hd ht (fun z => h1 out (by rw [if_neg z] at ho; exact ho) p l e s m args below meth c H locs ls C hP hS hl) (fun z => h2 out (by rw [if_pos z] at ho; exact ho) p l e s m args below meth c H locs ls C hP hS hl)
theorem j_if_lt {x : Int32} {off : Int} {t : Nat} (hd : decode cc pc = .ok (.ifCond .lt off, 3)) (ht : (pc : Int) + off = (t : Int)) (hq : pc + 3 = q) (h1 : JO K own cc nL ret R kc ns PZ t L S X Y o1) (h2 : JO K own cc nL ret R kc ns PZ q L S X Y o2) : JO K own cc nL ret R kc ns PZ pc L (.int x :: S) X Y (if x < 0 then o1 else o2) := by
  intro out ho p l e s m args below meth c H locs ls C hP hS hl
  subst hq
  exact lv_if_lt C.ex C.co hd ht (fun z => h1 out (by rw [if_pos z] at ho; exact ho) p l e s m args below meth c H locs ls C hP hS hl) (fun z => h2 out (by rw [if_neg z] at ho; exact ho) p l e s m args below meth c H locs ls C hP hS hl)
theorem j_icmp_lt {x y : Int32} {off : Int} {t : Nat} (hd : decode cc pc = .ok (.if_icmp .lt off, 3)) (ht : (pc : Int) + off = (t : Int)) (hq : pc + 3 = q) (h1 : JO K own cc nL ret R kc ns PZ t L S X Y o1) (h2 : JO K own cc nL ret R kc ns PZ q L S X Y o2) : JO K own cc nL ret R kc ns PZ pc L (.int y :: .int x :: S) X Y (if x < y then o1 else o2) := by
  intro out ho p l e s m args below meth c H locs ls C hP hS hl
  subst hq
  exact lv_icmp_lt C.ex C.co hd ht (fun z => h1 out (by rw [if_pos z] at ho; exact ho) p l e s m args below meth c H locs ls C hP hS hl) (fun z => h2 out (by rw [if_neg z] at ho; exact ho) p l e s m args below meth c H locs ls C hP hS hl)
theorem j_if_ge {x : Int32} {off : Int} {t : Nat} (hd : decode cc pc = .ok (.ifCond .ge off, 3)) (ht : (pc : Int) + off = (t : Int)) (hq : pc + 3 = q) (h1 : JO K own cc nL ret R kc ns PZ t L S X Y o1) (h2 : JO K own cc nL ret R kc ns PZ q L S X Y o2) : JO K own cc nL ret R kc ns PZ pc L (.int x :: S) X Y (if 0 ≤ x then o1 else o2) := by
  intro out ho p l e s m args below meth c H locs ls C hP hS hl
  subst hq
  exact lv_if_ge C.ex C.co hd ht (fun z => h1 out (by rw [if_pos z] at ho; exact ho) p l e s m args below meth c H locs ls C hP hS hl) (fun z => h2 out (by rw [if_neg z] at ho; exact ho) p l e s m args below meth c H locs ls C hP hS hl)
theorem j_icmp_ge {x y : Int32} {off : Int} {t : Nat} (hd : decode cc pc = .ok (.if_icmp .ge off, 3)) (ht : (pc : Int) + off = (t : Int)) (hq : pc + 3 = q) (h1 : JO K own cc nL ret R kc ns PZ t L S X Y o1) (h2 : JO K own cc nL ret R kc ns PZ q L S X Y o2) : JO K own cc nL ret R kc ns PZ pc L (.int y :: .int x :: S) X Y (if y ≤ x then o1 else o2) := by
  intro out ho p l e s m args below meth c H locs ls C hP hS hl
  subst hq
  exact lv_icmp_ge C.ex C.co hd ht (fun z => h1 out (by rw [if_pos z] at ho; exact ho) p l e s m args below meth c H locs ls C hP hS hl) (fun z => h2 out (by rw [if_neg z] at ho; exact ho) p l e s m args below meth c H locs ls C hP hS hl)
theorem j_if_gt {x : Int32} {off : Int} {t : Nat} (hd : decode cc pc = .ok (.ifCond .gt off, 3)) (ht : (pc : Int) + off = (t : Int)) (hq : pc + 3 = q) (h1 : JO K own cc nL ret R kc ns PZ t L S X Y o1) (h2 : JO K own cc nL ret R kc ns PZ q L S X Y o2) : JO K own cc nL ret R kc ns PZ pc L (.int x :: S) X Y (if 0 < x then o1 else o2) := by
  intro out ho p l e s m args below meth c H locs ls C hP hS hl
  subst hq
  exact lv_if_gt C.ex C.co hd ht (fun z => h1 out (by rw [if_pos z] at ho; exact ho) p l e s m args below meth c H locs ls C hP hS hl) (fun z => h2 out (by rw [if_neg z] at ho; exact ho) p l e s m args below meth c H locs ls C hP hS hl)
theorem j_icmp_gt {x y : Int32} {off : Int} {t : Nat} (hd : decode cc pc = .ok (.if_icmp .gt off, 3)) (ht : (pc : Int) + off = (t : Int)) (hq : pc + 3 = q) (h1 : JO K own cc nL ret R kc ns PZ t L S X Y o1) (h2 : JO K own cc nL ret R kc ns PZ q L S X Y o2) : JO K own cc nL ret R kc ns PZ pc L (.int y :: .int x :: S) X Y (if y < x then o1 else o2) := by
  intro out ho p l e s m args below meth c H locs ls C hP hS hl
  subst hq
  exact lv_icmp_gt C.ex C.co hd ht (fun z => h1 out (by rw [if_pos z] at ho; exact ho) p l e s m args below meth c H locs ls C hP hS hl) (fun z => h2 out (by rw [if_neg z] at ho; exact ho) p l e s m args below meth c H locs ls C hP hS hl)
theorem j_if_le {x : Int32} {off : Int} {t : Nat} (hd : decode cc pc = .ok (.ifCond .le off, 3)) (ht : (pc : Int) + off = (t : Int)) (hq : pc + 3 = q) (h1 : JO K own cc nL ret R kc ns PZ t L S X Y o1) (h2 : JO K own cc nL ret R kc ns PZ q L S X Y o2) : JO K own cc nL ret R kc ns PZ pc L (.int x :: S) X Y (if x ≤ 0 then o1 else o2) := by
  intro out ho p l e s m args below meth c H locs ls C hP hS hl
  subst hq
  exact lv_if_le C.ex C.co hd ht (fun z => h1 out (by rw [if_pos z] at ho; exact ho) p l e s m args below meth c H locs ls C hP hS hl) (fun z => h2 out (by rw [if_neg z] at ho; exact ho) p l e s m args below meth c H locs ls C hP hS hl)
theorem j_icmp_le {x y : Int32} {off : Int} {t : Nat} (hd : decode cc pc = .ok (.if_icmp .le off, 3)) (ht : (pc : Int) + off = (t : Int)) (hq : pc + 3 = q) (h1 : JO K own cc nL ret R kc ns PZ t L S X Y o1) (h2 : JO K own cc nL ret R kc ns PZ q L S X Y o2) : JO K own cc nL ret R kc ns PZ pc L (.int y :: .int x :: S) X Y (if x ≤ y then o1 else o2) := by
  intro out ho p l e s m args below meth c H locs ls C hP hS hl
  subst hq
  exact lv_icmp_le C.ex C.co hd ht (fun z => h1 out (by rw [if_pos z] at ho; exact ho) p l e s m args below meth c H locs ls C hP hS hl) (fun z => h2 out (by rw [if_neg z] at ho; exact ho) p l e s m args below meth c H locs ls C hP hS hl)
end JR
end
section
/-! fields, arrays, calls, ends -/
/-- a field of class ci, place k, as the entry 'index' of own's pool links it -/
def FK (own : String) (index ci k : Nat) : Prop := ∃ (C : String) (T : u_T) (N : Nat) (ty : Nat → FieldType), classes[ci]? = some (C, T, N) ∧ (∀ w ∈ u_ws C T N, w ∈ gw) ∧ (∀ k, k < N → parseFieldDescriptor (T k).2.2.1 = some (ty k)) ∧ (∀ a, a < N → ∀ b, b < N → a ≠ b → (T a).2.1 ≠ (T b).2.1) ∧ k < N ∧ (T k).1 = C ∧
  (Cond.fieldLink own index C (T k).2.1 (T k).2.2.1 ∈ gw ∨ ∃ host, Cond.fieldLinkNest own index C (T k).2.1 (T k).2.2.1 host ∈ nw)
/-- the same, of a field of whole numbers that isn't final -/
def FP (own : String) (index ci k : Nat) (ty : FieldType) : Prop := FK own index ci k ∧ ∀ q, classes[ci]? = some q → (q.2.1 k).2.2.2 = false ∧ parseFieldDescriptor (q.2.1 k).2.2.1 = some ty
def zb (v : Int32) : Bool := decide (v = 0) || decide (v = 1)
def FV (X : HI) (Y : HL) (a ci k : Nat) (v : Value) : Prop := a < 86 ∧ kd a = (0, ci) ∧ (fB (X a) (Y a) a)[k]? = some v
def FW (a ci k : Nat) : Prop := a < 86 ∧ kd a = (0, ci) ∧ ∀ (x : Nat → Int32) (y : Int64) (v : Int32), fB (upd x k v) y a = (fB x y a).set k (.int v) ∧ k < (fB x y a).length
def FWL (a ci k : Nat) : Prop := a < 86 ∧ kd a = (0, ci) ∧ ∀ (x : Nat → Int32) (y v : Int64), fB x v a = (fB x y a).set k (.long v) ∧ k < (fB x y a).length
def AI (a n : Nat) : Prop := a < 86 ∧ kd a = (1, n)
def AZ (a n : Nat) : Prop := a < 86 ∧ kd a = (2, n)
def AR (a n : Nat) : Prop := a < 86 ∧ kd a = (3, n)
theorem map_set_tr (K : KK) (fs : List Value) (k : Nat) (v : Value) : (fs.set k v).map (trV K) = (fs.map (trV K)).set k (trV K v) := List.map_set
section JR2
variable {K : KK} {own : String} {cc : ByteArray} {nL : Nat} {ret : Option FieldType} {R : Room} {kc ns : Nat} {PZ : PZT} {pc q : Nat} {L L' : List (Option Value)} {S : List Value} {X : HI} {Y : HL} {o o1 o2 : Option Out}
theorem j_get {index ci k a : Nat} {v : Value} (hd : decode cc pc = .ok (.getfield index, 3)) (hf : FK own index ci k) (hv : FV X Y a ci k v) (hq : pc + 3 = q) (h : JO K own cc nL ret R kc ns PZ q L (v :: S) X Y o) : JO K own cc nL ret R kc ns PZ pc L (.ref a :: S) X Y o := by
  intro out ho p l e s m args below meth c H locs ls C hP hS hl
  obtain ⟨Cn, T, N, ty, f1, f2, f3, f4, f5, f6, f7⟩ := hf
  obtain ⟨v1, v2, v3⟩ := hv
  subst hq
  have hat : (wsOf K X Y)[a]? = some (kad K a, .inr (ci, (fB (X a) (Y a) a).map (trV K))) := by rw [ws_at v1, cB_o v2]
  have hvv : ((fB (X a) (Y a) a).map (trV K))[k]? = some (trV K v) := by rw [List.getElem?_map, v3]; rfl
  have kk := h out ho p l e s m args below meth c H locs ls C hP hS hl
  rcases f7 with f7 | ⟨host, f7⟩
  · exact va_get C.ex C.co C.ts f2 C.ow C.ka hP a hat f1 k f5 (C.ts _ f7) (fun x hx => by rw [f6] at hx; exact hx) hvv hd kk
  · exact va_getN C.ex C.co C.ts f2 C.ow C.ka hP a hat f1 k f5 (va_Nw.use rfl (C.ne _ f7)) (fun x hx => by rw [f6] at hx; exact hx) hvv hd kk
theorem j_putI {index ci k a : Nat} {v : Int32} {kk : HI → Option Out} (hd : decode cc pc = .ok (.putfield index, 3)) (hf : FP own index ci k .int) (hv : FW a ci k) (hq : pc + 3 = q) (h : ∀ X1, JO K own cc nL ret R kc ns PZ q L S X1 Y (kk X1)) : JO K own cc nL ret R kc ns PZ pc L (.int v :: .ref a :: S) X Y (lh (up X a k v) kk) := by
  intro out ho p l e s m args below meth c H locs ls C hP hS hl
  obtain ⟨⟨Cn, T, N, ty, f1, f2, f3, f4, f5, f6, f7⟩, g⟩ := hf
  obtain ⟨g1, g2⟩ := g _ f1
  obtain ⟨v1, v2, v3⟩ := hv
  obtain ⟨v4, v5⟩ := v3 (X a) (Y a) v
  subst hq
  have hat : (wsOf K X Y)[a]? = some (kad K a, .inr (ci, (fB (X a) (Y a) a).map (trV K))) := by rw [ws_at v1, cB_o v2]
  have he : (wsOf K X Y).set a (kad K a, .inr (ci, ((fB (X a) (Y a) a).map (trV K)).set k (trV K (.int v)))) = wsOf K (up X a k v) Y := by
    rw [← ws_up v1, cB_o v2, v4, map_set_tr]
  have k1 := fun (H1 : Heap) (locs1 : List Loc) (hP1 : va_P (kD K) classes (wsOf K (up X a k v) Y) H1) (hS1 : va_S (kA K) s.heap H1 locs1) => h (up X a k v) out ho p l e s m args below meth c H1 locs1 ls C hP1 hS1 hl
  rcases f7 with f7 | ⟨host, f7⟩
  · exact va_put (ty := .int) C.ex C.co C.ts f2 ty f3 f4 C.ow C.ka hP (ws_D C.ok X Y) hS a hat f1 k f5 (C.ts _ f7) (fun x hx => by rw [f6] at hx; exact hx) g1 g2 rfl rfl (by rw [List.length_map]; exact v5) hd (fun H1 locs1 hP1 _ hS1 => k1 H1 locs1 (by rw [he] at hP1; exact hP1) hS1)
  · exact va_putN (ty := .int) C.ex C.co C.ts f2 ty f3 f4 C.ow C.ka hP (ws_D C.ok X Y) hS a hat f1 k f5 (va_Nw.use rfl (C.ne _ f7)) (fun x hx => by rw [f6] at hx; exact hx) g1 g2 rfl rfl (by rw [List.length_map]; exact v5) hd (fun H1 locs1 hP1 _ hS1 => k1 H1 locs1 (by rw [he] at hP1; exact hP1) hS1)
theorem j_putL {index ci k a : Nat} {v : Int64} {kk : HL → Option Out} (hd : decode cc pc = .ok (.putfield index, 3)) (hf : FP own index ci k .long) (hv : FWL a ci k) (hq : pc + 3 = q) (h : ∀ Y1, JO K own cc nL ret R kc ns PZ q L S X Y1 (kk Y1)) : JO K own cc nL ret R kc ns PZ pc L (.long v :: .ref a :: S) X Y (lhY (upY Y a v) kk) := by
  intro out ho p l e s m args below meth c H locs ls C hP hS hl
  obtain ⟨⟨Cn, T, N, ty, f1, f2, f3, f4, f5, f6, f7⟩, g⟩ := hf
  obtain ⟨g1, g2⟩ := g _ f1
  obtain ⟨v1, v2, v3⟩ := hv
  obtain ⟨v4, v5⟩ := v3 (X a) (Y a) v
  subst hq
  have hat : (wsOf K X Y)[a]? = some (kad K a, .inr (ci, (fB (X a) (Y a) a).map (trV K))) := by rw [ws_at v1, cB_o v2]
  have he : (wsOf K X Y).set a (kad K a, .inr (ci, ((fB (X a) (Y a) a).map (trV K)).set k (trV K (.long v)))) = wsOf K X (upY Y a v) := by
    rw [← ws_upY v1, cB_o v2, v4, map_set_tr]
  have k1 := fun (H1 : Heap) (locs1 : List Loc) (hP1 : va_P (kD K) classes (wsOf K X (upY Y a v)) H1) (hS1 : va_S (kA K) s.heap H1 locs1) => h (upY Y a v) out ho p l e s m args below meth c H1 locs1 ls C hP1 hS1 hl
  rcases f7 with f7 | ⟨host, f7⟩
  · exact va_put (ty := .long) C.ex C.co C.ts f2 ty f3 f4 C.ow C.ka hP (ws_D C.ok X Y) hS a hat f1 k f5 (C.ts _ f7) (fun x hx => by rw [f6] at hx; exact hx) g1 g2 rfl rfl (by rw [List.length_map]; exact v5) hd (fun H1 locs1 hP1 _ hS1 => k1 H1 locs1 (by rw [he] at hP1; exact hP1) hS1)
  · exact va_putN (ty := .long) C.ex C.co C.ts f2 ty f3 f4 C.ow C.ka hP (ws_D C.ok X Y) hS a hat f1 k f5 (va_Nw.use rfl (C.ne _ f7)) (fun x hx => by rw [f6] at hx; exact hx) g1 g2 rfl rfl (by rw [List.length_map]; exact v5) hd (fun H1 locs1 hP1 _ hS1 => k1 H1 locs1 (by rw [he] at hP1; exact hP1) hS1)
theorem j_iald {a n : Nat} {i : Int32} (hd : decode cc pc = .ok (.iaload, 1)) (ha : AI a n) (hq : pc + 1 = q) (h : JO K own cc nL ret R kc ns PZ q L (.int (X a i.toNatClampNeg) :: S) X Y o) : JO K own cc nL ret R kc ns PZ pc L (.int i :: .ref a :: S) X Y (gd (ixb i n) o) := by
  intro out ho p l e s m args below meth c H locs ls C hP hS hl
  cases hb : ixb i n with
  | false => rw [hb] at ho; cases ho
  | true =>
    rw [hb] at ho
    subst hq
    exact va_iald C.ex C.co C.ka hP a 0 (by rw [ws_at ha.1, cB_i ha.2]) rfl (ixb_in hb) hd (h out ho p l e s m args below meth c H locs ls C hP hS hl)
theorem j_zald {a n : Nat} {i : Int32} (hd : decode cc pc = .ok (.baload, 1)) (ha : AZ a n) (hq : pc + 1 = q) (h : JO K own cc nL ret R kc ns PZ q L (.int (X a i.toNatClampNeg) :: S) X Y o) : JO K own cc nL ret R kc ns PZ pc L (.int i :: .ref a :: S) X Y (gd (ixb i n) o) := by
  intro out ho p l e s m args below meth c H locs ls C hP hS hl
  cases hb : ixb i n with
  | false => rw [hb] at ho; cases ho
  | true =>
    rw [hb] at ho
    subst hq
    exact va_zald C.ex C.co C.ka hP a 1 (by rw [ws_at ha.1, cB_z ha.2]) rfl (ixb_in hb) hd (h out ho p l e s m args below meth c H locs ls C hP hS hl)
theorem j_aald {a n : Nat} {i : Int32} (hd : decode cc pc = .ok (.aaload, 1)) (ha : AR a n) (hq : pc + 1 = q) (h : ixb i n = true → JO K own cc nL ret R kc ns PZ q L (.ref (rA a i.toNatClampNeg) :: S) X Y o) : JO K own cc nL ret R kc ns PZ pc L (.int i :: .ref a :: S) X Y (gd (ixb i n) o) := by
  intro out ho p l e s m args below meth c H locs ls C hP hS hl
  cases hb : ixb i n with
  | false => rw [hb] at ho; cases ho
  | true =>
    rw [hb] at ho
    subst hq
    exact va_aldq (f := fun i => some (kad K (rA a i))) C.ex C.co C.ka hP a 2 (by rw [ws_at ha.1, cB_r ha.2]) rfl (ixb_in hb) hd (h hb out ho p l e s m args below meth c H locs ls C hP hS hl)
theorem j_iast {a n : Nat} {i v : Int32} {kk : HI → Option Out} (hd : decode cc pc = .ok (.iastore, 1)) (ha : AI a n) (hq : pc + 1 = q) (h : ∀ X1, JO K own cc nL ret R kc ns PZ q L S X1 Y (kk X1)) : JO K own cc nL ret R kc ns PZ pc L (.int v :: .int i :: .ref a :: S) X Y (wr (ixb i n) (up X a i.toNatClampNeg v) kk) := by
  intro out ho p l e s m args below meth c H locs ls C hP hS hl
  cases hb : ixb i n with
  | false => rw [hb] at ho; cases ho
  | true =>
    rw [hb] at ho
    subst hq
    have he : (wsOf K X Y).set a (kad K a, .inl (kI K, n, .inl (upd (X a) i.toNatClampNeg v))) = wsOf K (up X a i.toNatClampNeg v) Y := by
      rw [← ws_up ha.1, cB_i ha.2]
    exact va_iast C.ex C.co C.ka hP (ws_D C.ok X Y) hS a 0 (by rw [ws_at ha.1, cB_i ha.2]) rfl (ixb_in hb) hd (fun H1 locs1 hP1 _ hS1 => h _ out ho p l e s m args below meth c H1 locs1 ls C (by rw [he] at hP1; exact hP1) hS1 hl)
theorem j_zast {a n : Nat} {i v : Int32} {kk : HI → Option Out} (hd : decode cc pc = .ok (.bastore, 1)) (ha : AZ a n) (hq : pc + 1 = q) (h : ∀ X1, JO K own cc nL ret R kc ns PZ q L S X1 Y (kk X1)) : JO K own cc nL ret R kc ns PZ pc L (.int v :: .int i :: .ref a :: S) X Y (wr (ixb i n) (up X a i.toNatClampNeg (vp_nar .boolean v)) kk) := by
  intro out ho p l e s m args below meth c H locs ls C hP hS hl
  cases hb : ixb i n with
  | false => rw [hb] at ho; cases ho
  | true =>
    rw [hb] at ho
    subst hq
    have he : (wsOf K X Y).set a (kad K a, .inl (kZ K, n, .inl (upd (X a) i.toNatClampNeg (vp_nar .boolean v)))) = wsOf K (up X a i.toNatClampNeg (vp_nar .boolean v)) Y := by
      rw [← ws_up ha.1, cB_z ha.2]
    exact va_zast C.ex C.co C.ka hP (ws_D C.ok X Y) hS a 1 (by rw [ws_at ha.1, cB_z ha.2]) rfl (ixb_in hb) hd (fun H1 locs1 hP1 _ hS1 => h _ out ho p l e s m args below meth c H1 locs1 ls C (by rw [he] at hP1; exact hP1) hS1 hl)
-- the static arrays: the reference of FACTORIALS is told as .float 1, that of THOUSANDS as .float 2
theorem j_getF {index : Nat} (hd : decode cc pc = .ok (.getstatic index, 3)) (hw : Cond.fieldLink own index "BrinePans" "FACTORIALS" "[I" ∈ gw) (hq : pc + 3 = q) (h : JO K own cc nL ret R kc ns PZ q L (.float 1 :: S) X Y o) : JO K own cc nL ret R kc ns PZ pc L S X Y o := by
  intro out ho p l e s m args below meth c H locs ls C hP hS hl
  subst hq
  exact va_gets C.ex C.co C.st.1 hS C.ow (C.ts _ hw) (fun _ h => h) hd (h out ho p l e s m args below meth c H locs ls C hP hS hl)
theorem j_getT {index : Nat} (hd : decode cc pc = .ok (.getstatic index, 3)) (hw : Cond.fieldLink own index "BrinePans" "THOUSANDS" "[J" ∈ gw) (hq : pc + 3 = q) (h : JO K own cc nL ret R kc ns PZ q L (.float 2 :: S) X Y o) : JO K own cc nL ret R kc ns PZ pc L S X Y o := by
  intro out ho p l e s m args below meth c H locs ls C hP hS hl
  subst hq
  exact va_gets C.ex C.co C.st.2.2.1 hS C.ow (C.ts _ hw) (fun _ h => h) hd (h out ho p l e s m args below meth c H locs ls C hP hS hl)
theorem j_faF {i : Int32} (hd : decode cc pc = .ok (.iaload, 1)) (hq : pc + 1 = q) (h : JO K own cc nL ret R kc ns PZ q L (.int (fac i.toNatClampNeg) :: S) X Y o) : JO K own cc nL ret R kc ns PZ pc L (.int i :: .float 1 :: S) X Y (gd (ixb i 7) o) := by
  intro out ho p l e s m args below meth c H locs ls C hP hS hl
  cases hb : ixb i 7 with
  | false => rw [hb] at ho; cases ho
  | true =>
    rw [hb] at ho
    subst hq
    exact va_ti (t := kts K 1) C.ex C.co C.st.2.1 hS (ixb_in hb) rfl hd (h out ho p l e s m args below meth c H locs ls C hP hS hl)
theorem j_faT {i : Int32} (hd : decode cc pc = .ok (.laload, 1)) (hq : pc + 1 = q) (h : JO K own cc nL ret R kc ns PZ q L (.long (tho i.toNatClampNeg) :: S) X Y o) : JO K own cc nL ret R kc ns PZ pc L (.int i :: .float 2 :: S) X Y (gd (ixb i 4) o) := by
  intro out ho p l e s m args below meth c H locs ls C hP hS hl
  cases hb : ixb i 4 with
  | false => rw [hb] at ho; cases ho
  | true =>
    rw [hb] at ho
    subst hq
    exact va_tl (t := kts K 2) C.ex C.co C.st.2.2.2 hS (ixb_in hb) rfl hd (h out ho p l e s m args below meth c H locs ls C hP hS hl)
theorem j_lenT (hd : decode cc pc = .ok (.arraylength, 1)) (hq : pc + 1 = q) (h : JO K own cc nL ret R kc ns PZ q L (.int 4 :: S) X Y o) : JO K own cc nL ret R kc ns PZ pc L (.float 2 :: S) X Y o := by
  intro out ho p l e s m args below meth c H locs ls C hP hS hl
  subst hq
  exact va_tlen (t := kts K 2) C.ex C.co C.st.2.2.2 hS (v := 4) (by decide +kernel) hd (h out ho p l e s m args below meth c H locs ls C hP hS hl)
-- switches
theorem j_tabIn {dflt lo hi : Int} {offs : Array Int} {len t : Nat} {x z : Int32} {off : Int} (hd : decode cc pc = .ok (.tableswitch dflt lo hi offs, len)) (hx : x = z) (h1 : ¬ z.toInt < lo) (h2 : ¬ hi < z.toInt) (ho2 : offs[(z.toInt - lo).toNat]? = some off) (ht : (pc : Int) + off = (t : Int)) (h : JO K own cc nL ret R kc ns PZ t L S X Y o) : JO K own cc nL ret R kc ns PZ pc L (.int x :: S) X Y o := by
  intro out ho p l e s m args below meth c H locs ls C hP hS hl
  subst hx
  exact lv_tableIn C.ex C.co hd h1 h2 ho2 ht (h out ho p l e s m args below meth c H locs ls C hP hS hl)
theorem j_tabOut {dflt lo hi : Int} {offs : Array Int} {len t : Nat} {x : Int32} (hd : decode cc pc = .ok (.tableswitch dflt lo hi offs, len)) (h1 : x.toInt < lo ∨ hi < x.toInt) (ht : (pc : Int) + dflt = (t : Int)) (h : JO K own cc nL ret R kc ns PZ t L S X Y o) : JO K own cc nL ret R kc ns PZ pc L (.int x :: S) X Y o :=
  fun out ho p l e s m args below meth c H locs ls C hP hS hl => lv_tableOut C.ex C.co hd h1 ht (h out ho p l e s m args below meth c H locs ls C hP hS hl)
theorem j_look {dflt : Int} {ps : Array (Int × Int)} {len t : Nat} {x : Int32} {off : Int} (hd : decode cc pc = .ok (.lookupswitch dflt ps, len)) (hp : (ps.toList.zip (ps.toList.drop 1)).all (fun (a, next) => a.1 < next.1) = true) (ho2 : Op.lookupswitch.offset ps.toList dflt x.toInt = off) (ht : (pc : Int) + off = (t : Int)) (h : JO K own cc nL ret R kc ns PZ t L S X Y o) : JO K own cc nL ret R kc ns PZ pc L (.int x :: S) X Y o :=
  fun out ho p l e s m args below meth c H locs ls C hP hS hl => lv_lookup C.ex C.co hd hp ho2 ht (h out ho p l e s m args below meth c H locs ls C hP hS hl)
end JR2
/-- out of a table from 0 on -/
theorem tab_out {x : Int32} (n : Nat) (h : ∀ j, j ≤ n → x.toInt ≠ (j : Int)) : x.toInt < 0 ∨ (n : Int) < x.toInt := by
  by_cases h1 : x.toInt < 0
  · exact Or.inl h1
  · right
    have h2 := h x.toInt.toNat
    omega
theorem ne_toInt {x z : Int32} (h : ¬ x = z) : x.toInt ≠ z.toInt := fun e => h (Int32.toInt_inj.mp e)
theorem look_out {x : Int} (h1 : x ≠ 78) (h2 : x ≠ 82) (h3 : x ≠ 83) {a b c d : Int} : Op.lookupswitch.offset [(78, a), (82, b), (83, c)] d x = d := by
  simp [Op.lookupswitch.offset, Ne.symm h1, Ne.symm h2, Ne.symm h3, h1, h2, h3]
-- ends
section JR3
variable {K : KK} {own : String} {cc : ByteArray} {nL : Nat} {R : Room} {pc : Nat} {L : List (Option Value)} {X : HI} {Y : HL}
theorem j_iret {v : Int32} (hd : decode cc pc = .ok (.ireturn, 1)) : JO K own cc nL (some .int) R 0 0 (MZ K) pc L [.int v] X Y (rI v X Y) := by
  intro out ho p l e s m args below meth c H locs ls C hP hS hl
  cases ho
  exact W.iret C.ex C.co C.re (fun t ht hW => ⟨⟨rfl, by rw [ht]; exact hP⟩, hS.F ht⟩) hS.2.2 hd C.lk
theorem j_zret {v : Int32} (hd : decode cc pc = .ok (.ireturn, 1)) (hv : narrow .boolean (.int v) = .int v) : JO K own cc nL (some .boolean) R 0 0 (MZ K) pc L [.int v] X Y (rI v X Y) := by
  intro out ho p l e s m args below meth c H locs ls C hP hS hl
  cases ho
  exact W.zret C.ex C.co C.re hv (fun t ht hW => ⟨⟨rfl, by rw [ht]; exact hP⟩, hS.F ht⟩) hS.2.2 hd C.lk
theorem zb_nar {v : Int32} (h : zb v = true) : narrow .boolean (.int v) = .int v := by
  have h2 : v = 0 ∨ v = 1 := by simpa [zb] using h
  rcases h2 with rfl | rfl <;> decide
theorem j_zretG {v : Int32} (hd : decode cc pc = .ok (.ireturn, 1)) : JO K own cc nL (some .boolean) R 0 0 (MZ K) pc L [.int v] X Y (gd (zb v) (rI v X Y)) := by
  cases hb : zb v with
  | false => exact fun out ho => by cases ho
  | true => exact j_zret hd (zb_nar hb)
theorem j_lret {v : Int64} (hd : decode cc pc = .ok (.lreturn, 1)) : JO K own cc nL (some .long) R 0 0 (MZ K) pc L [.long v] X Y (rL v X Y) := by
  intro out ho p l e s m args below meth c H locs ls C hP hS hl
  cases ho
  exact W.lret C.ex C.co C.re (fun t ht hW => ⟨⟨rfl, by rw [ht]; exact hP⟩, hS.F ht⟩) hS.2.2 hd C.lk
theorem j_vret (hd : decode cc pc = .ok (.return_, 1)) : JO K own cc nL none R 0 0 (MZ K) pc L [] X Y (rV X Y) := by
  intro out ho p l e s m args below meth c H locs ls C hP hS hl
  cases ho
  exact W.vret C.ex C.co C.re (fun t ht hW => ⟨⟨rfl, by rw [ht]; exact hP⟩, hS.F ht⟩) hS.2.2 hd C.lk
theorem j_aret {v : Nat} {n : String} (hd : decode cc pc = .ok (.areturn, 1)) : JO K own cc nL (some (.object n)) R 0 0 (MZ K) pc L [.ref v] X Y (rR v X Y) := by
  intro out ho p l e s m args below meth c H locs ls C hP hS hl
  cases ho
  exact W.aret (v := .ref (kad K v)) C.ex C.co C.re (Or.inl ⟨_, rfl⟩) (Or.inr ⟨_, rfl⟩) (fun t ht hW => ⟨⟨rfl, by rw [ht]; exact hP⟩, hS.F ht⟩) hS.2.2 hd C.lk
end JR3
end
section
/-! calls -/
def MW (y : MethodName) (bytes : ByteArray) (maxL : Nat) (ret : Option FieldType) (n : Nat) : Prop := Cond.code y bytes maxL ret ∈ gw ∧ Cond.initialized y.cls ∈ gw ∧ (y.cls ≠ "java/lang/invoke/MethodHandle" ∧ y.cls ≠ "java/lang/invoke/VarHandle" ∧ (parseMethodDescriptor y.desc).map (fun d => d.parameters.length) = some n)
def MV (y : MethodName) : Prop := Cond.instanceMethod y ∈ gw ∧ Cond.selects y.cls y y ∈ gw
def MS (y : MethodName) : Prop := Cond.static y ∈ gw
def OB (a : Nat) (C : String) : Prop := a < 86 ∧ ∃ (ci : Nat) (q : vw_C), kd a = (0, ci) ∧ classes[ci]? = some q ∧ q.1 = C
def RM (R rm : Room) (maxL kc ns : Nat) : Prop := (rm.cells = 0 ∧ rm.slots = 0) ∧ (rm.frames + 1 ≤ R.frames ∧ 8 + (maxL + 11) + rm.locals ≤ R.locals) ∧ (kc ≤ R.cells ∧ ns ≤ R.slots)
theorem gw_good {ws : List Cond} (h : ∀ w ∈ ws, w ∈ gw) : GoodIn gw ws := fun w hw => ⟨h w hw, gw_all w (h w hw)⟩
theorem Pk_blind (K : KK) (av : List Value) (X : HI) (Y : HL) : FrameBlind (va_Pc av (Pk K X Y)) := fun a U g mk q => by
  obtain ⟨q0, qP, qK, qN, qS⟩ := q
  exact ⟨q0, qP, va_K.moved (u := U) (U := U.calling g mk a) (Vm.Alike.refl U.vm) qK, kN.same (u := U) (U := U.calling g mk a) rfl qN, kSt.moved (s := U) (U := U.calling g mk a) (Vm.Alike.refl U.vm) (fun _ _ _ => rfl) qS⟩
theorem bi_some {o : Option Out} {k : Int32 → HI → HL → Option Out} {out : Out} (h : bi o k = some out) : ∃ r X Y, o = some (some (.int r), X, Y) ∧ k r X Y = some out := by
  unfold bi at h
  split at h
  · exact ⟨_, _, _, rfl, h⟩
  · cases h
theorem bl_some {o : Option Out} {k : Int64 → HI → HL → Option Out} {out : Out} (h : bl o k = some out) : ∃ r X Y, o = some (some (.long r), X, Y) ∧ k r X Y = some out := by
  unfold bl at h
  split at h
  · exact ⟨_, _, _, rfl, h⟩
  · cases h
theorem bv_some {o : Option Out} {k : HI → HL → Option Out} {out : Out} (h : bv o k = some out) : ∃ X Y, o = some (none, X, Y) ∧ k X Y = some out := by
  unfold bv at h
  split at h
  · exact ⟨_, _, rfl, h⟩
  · cases h
theorem br_some {n : Nat} {o : Option Out} {k : HI → HL → Option Out} {out : Out} (h : br n o k = some out) : ∃ X Y, o = some (some (.ref n), X, Y) ∧ k X Y = some out := by
  unfold br at h
  split at h
  · split at h
    · next e => subst e; exact ⟨_, _, rfl, h⟩
    · cases h
  · cases h
section JC
variable {K : KK} {own : String} {cc : ByteArray} {nL : Nat} {ret : Option FieldType} {R : Room} {kc ns : Nat} {PZ : PZT} {pc q : Nat} {L L' : List (Option Value)} {S st0 : List Value} {X : HI} {Y : HL} {o o1 o2 : Option Out}
theorem w_call {p : Program} {l : Launch} {e : Env} {s : State} {m : MethodId} {args : Array Value} {below : List Frame} {meth : Method} {c : Code} {H H0 : Heap} {locs : List Loc} {cells slots : Nat} {Q : State → Prop} {ls : Array Slot} {sT rest : List Value} {a : Array Value} {out1 : Out}
    (hr : va_Run p l e R s m args below meth c H locs cells slots 0 0 (F0 m pc ls sT) rest (QcO K out1 a) (kA K)) (hS : va_S (kA K) H0 H locs)
    (kk : ∀ (H1 : Heap) (locs1 : List Loc), va_P (kD K) classes (wsOf K out1.2.1 out1.2.2) H1 → va_S (kA K) H0 H1 locs1 → W p l e R s m args below meth c H1 locs1 cells slots Q (F0 m (pc + 3) ls ((out1.1.map (trV K)).toList ++ rest))) : W p l e R s m args below meth c H locs cells slots Q (F0 m pc ls sT) := by
  intro T hT X
  obtain ⟨v, st₀, t, T', L, h0, X', hL, e1, e2, ⟨⟨hv, hp⟩, hz, hk⟩, st⟩ := hr T hT X
  cases hv
  rw [h0] at hz hk
  obtain ⟨t2, a1, b1⟩ := kk T'.heap (locs ++ L) (by rw [e1]; exact hp)
    ⟨Nat.le_trans hS.1 (by rw [e1]; exact hz), fun q h1 h2 => by rw [e1, hk q (Nat.lt_of_lt_of_le h1 hS.1) h2]; exact hS.2.1 q h1 h2, fun q hq => by
      rcases List.mem_append.mp hq with h | h
      · exact hS.2.2 q h
      · exact hL q h⟩ T' rfl X'
  exact ⟨t2, st t2 a1, b1⟩
theorem pre_at {p : Program} {s : State} {m : MethodId} {args : Array Value} {meth : Method} {c : Code} {H : Heap} {locs : List Loc} (C : Cx K own cc nL ret p s m args meth c) (hP : va_P (kD K) classes (wsOf K X Y) H) (hS : va_S (kA K) s.heap H locs) (av : List Value) : ∀ U : State, U.heap = H → s.WarmedH U.vm → va_Pc av (Pk K X Y) av.toArray U :=
  fun U hU hW => ⟨rfl, by rw [hU]; exact hP, va_K.moved hW.alike C.ka, C.ne.warm hW, kSt.moved hW.alike (fun q h1 h2 => by rw [hU]; exact hS.2.1 q h1 h2) C.st⟩
theorem room8 {m : MethodId} {ls : Array Slot} {g : List Value} (hS8 : (S.map (fun v => v.category)).sum ≤ 8) : 2 * (F0 m pc ls g).monitorRoom + ((S.map (trV K)).map (fun v => v.category)).sum ≤ 8 :=
  lv_room (by
    rw [List.map_map]
    have e : List.map ((fun v => v.category) ∘ trV K) S = S.map (fun v => v.category) := List.map_congr_left (fun v _ => trV_cat K v)
    rw [e]; exact hS8)
theorem j_callVi {index : Nat} {y : MethodName} {bytes : ByteArray} {maxL n : Nat} {retc : Option FieldType} {rm : Room} {a : Nat} {k : Int32 → HI → HL → Option Out} (As : List Value) (hd : decode cc pc = .ok (.invokevirtual index, 3)) (hw : MW y bytes maxL retc n) (hv : MV y) (hl : Cond.methodLink own index y ∈ gw) (hob : OB a y.cls) (hst : st0 = As.reverse ++ .ref a :: S) (hn : As.length = n) (hc : CT K y bytes maxL retc rm (.ref a :: As) X Y o1) (hR : RM R rm maxL kc ns) (hS8 : (S.map (fun v => v.category)).sum ≤ 8) (hq : pc + 3 = q) (h : ∀ r X1 Y1, JO K own cc nL ret R kc ns PZ q L (.int r :: S) X1 Y1 (k r X1 Y1)) : JO K own cc nL ret R kc ns PZ pc L st0 X Y (bi o1 k) := by
  intro out ho p l e s m args below meth c H locs ls C hP hS hlo
  subst hq
  have hl0 : ls.size = nL := hlo.1
  obtain ⟨r, X1, Y1, e1, e2⟩ := bi_some ho
  have hM := hc _ e1 l
  obtain ⟨⟨r1, r2⟩, r3, r4⟩ := hR
  obtain ⟨oa, ci, q5, ob, oc, od⟩ := hob
  have hat : (wsOf K X Y)[a]? = some (kad K a, .inr (ci, (fB (X a) (Y a) a).map (trV K))) := by rw [ws_at oa, cB_o ob]
  have hrecv := va_recv C.ka hP oc hat
  rw [od] at hrecv
  have hst2 : st0.map (trV K) = (As.map (trV K)).reverse ++ .ref (kad K a) :: S.map (trV K) := by rw [hst, List.map_append, List.map_reverse]; rfl
  exact w_call (va_runV (As := As.map (trV K)) (rest := S.map (trV K)) ⟨C.ex, C.co, C.ml, C.ow, C.ts⟩ hM (cwV n C.ts (gw_good (fun w hw5 => by
    rcases List.mem_append.mp hw5 with h5 | h5
    · simp only [List.mem_cons, List.not_mem_nil, or_false] at h5
      rcases h5 with rfl | rfl | rfl | rfl
      · exact hl
      · exact hv.1
      · exact hv.2
      · exact hw.2.1
    · exact (List.mem_cons.mp h5).elim (fun e5 => by rw [e5]; exact hw.1) (fun h5 => h5))) rfl r1 r2 ⟨rfl, hw.2.2⟩ r3) ⟨Pk_blind K _ X Y, hrecv, pre_at C hP hS (.ref (kad K a) :: As.map (trV K))⟩ rfl (by rw [List.length_map]; exact hn) hl0 hst2 (room8 hS8) hd ⟨r4.1, r4.2⟩) hS (fun H1 locs1 hP1 hS1 => h r X1 Y1 out e2 p l e s m args below meth c H1 locs1 ls C hP1 hS1 hlo)
theorem j_callVl {index : Nat} {y : MethodName} {bytes : ByteArray} {maxL n : Nat} {retc : Option FieldType} {rm : Room} {a : Nat} {k : Int64 → HI → HL → Option Out} (As : List Value) (hd : decode cc pc = .ok (.invokevirtual index, 3)) (hw : MW y bytes maxL retc n) (hv : MV y) (hl : Cond.methodLink own index y ∈ gw) (hob : OB a y.cls) (hst : st0 = As.reverse ++ .ref a :: S) (hn : As.length = n) (hc : CT K y bytes maxL retc rm (.ref a :: As) X Y o1) (hR : RM R rm maxL kc ns) (hS8 : (S.map (fun v => v.category)).sum ≤ 8) (hq : pc + 3 = q) (h : ∀ r X1 Y1, JO K own cc nL ret R kc ns PZ q L (.long r :: S) X1 Y1 (k r X1 Y1)) : JO K own cc nL ret R kc ns PZ pc L st0 X Y (bl o1 k) := by
  intro out ho p l e s m args below meth c H locs ls C hP hS hlo
  subst hq
  have hl0 : ls.size = nL := hlo.1
  obtain ⟨r, X1, Y1, e1, e2⟩ := bl_some ho
  have hM := hc _ e1 l
  obtain ⟨⟨r1, r2⟩, r3, r4⟩ := hR
  obtain ⟨oa, ci, q5, ob, oc, od⟩ := hob
  have hat : (wsOf K X Y)[a]? = some (kad K a, .inr (ci, (fB (X a) (Y a) a).map (trV K))) := by rw [ws_at oa, cB_o ob]
  have hrecv := va_recv C.ka hP oc hat
  rw [od] at hrecv
  have hst2 : st0.map (trV K) = (As.map (trV K)).reverse ++ .ref (kad K a) :: S.map (trV K) := by rw [hst, List.map_append, List.map_reverse]; rfl
  exact w_call (va_runV (As := As.map (trV K)) (rest := S.map (trV K)) ⟨C.ex, C.co, C.ml, C.ow, C.ts⟩ hM (cwV n C.ts (gw_good (fun w hw5 => by
    rcases List.mem_append.mp hw5 with h5 | h5
    · simp only [List.mem_cons, List.not_mem_nil, or_false] at h5
      rcases h5 with rfl | rfl | rfl | rfl
      · exact hl
      · exact hv.1
      · exact hv.2
      · exact hw.2.1
    · exact (List.mem_cons.mp h5).elim (fun e5 => by rw [e5]; exact hw.1) (fun h5 => h5))) rfl r1 r2 ⟨rfl, hw.2.2⟩ r3) ⟨Pk_blind K _ X Y, hrecv, pre_at C hP hS (.ref (kad K a) :: As.map (trV K))⟩ rfl (by rw [List.length_map]; exact hn) hl0 hst2 (room8 hS8) hd ⟨r4.1, r4.2⟩) hS (fun H1 locs1 hP1 hS1 => h r X1 Y1 out e2 p l e s m args below meth c H1 locs1 ls C hP1 hS1 hlo)
theorem j_callVv {index : Nat} {y : MethodName} {bytes : ByteArray} {maxL n : Nat} {retc : Option FieldType} {rm : Room} {a : Nat} {k : HI → HL → Option Out} (As : List Value) (hd : decode cc pc = .ok (.invokevirtual index, 3)) (hw : MW y bytes maxL retc n) (hv : MV y) (hl : Cond.methodLink own index y ∈ gw) (hob : OB a y.cls) (hst : st0 = As.reverse ++ .ref a :: S) (hn : As.length = n) (hc : CT K y bytes maxL retc rm (.ref a :: As) X Y o1) (hR : RM R rm maxL kc ns) (hS8 : (S.map (fun v => v.category)).sum ≤ 8) (hq : pc + 3 = q) (h : ∀ X1 Y1, JO K own cc nL ret R kc ns PZ q L S X1 Y1 (k X1 Y1)) : JO K own cc nL ret R kc ns PZ pc L st0 X Y (bv o1 k) := by
  intro out ho p l e s m args below meth c H locs ls C hP hS hlo
  subst hq
  have hl0 : ls.size = nL := hlo.1
  obtain ⟨X1, Y1, e1, e2⟩ := bv_some ho
  have hM := hc _ e1 l
  obtain ⟨⟨r1, r2⟩, r3, r4⟩ := hR
  obtain ⟨oa, ci, q5, ob, oc, od⟩ := hob
  have hat : (wsOf K X Y)[a]? = some (kad K a, .inr (ci, (fB (X a) (Y a) a).map (trV K))) := by rw [ws_at oa, cB_o ob]
  have hrecv := va_recv C.ka hP oc hat
  rw [od] at hrecv
  have hst2 : st0.map (trV K) = (As.map (trV K)).reverse ++ .ref (kad K a) :: S.map (trV K) := by rw [hst, List.map_append, List.map_reverse]; rfl
  exact w_call (va_runV (As := As.map (trV K)) (rest := S.map (trV K)) ⟨C.ex, C.co, C.ml, C.ow, C.ts⟩ hM (cwV n C.ts (gw_good (fun w hw5 => by
    rcases List.mem_append.mp hw5 with h5 | h5
    · simp only [List.mem_cons, List.not_mem_nil, or_false] at h5
      rcases h5 with rfl | rfl | rfl | rfl
      · exact hl
      · exact hv.1
      · exact hv.2
      · exact hw.2.1
    · exact (List.mem_cons.mp h5).elim (fun e5 => by rw [e5]; exact hw.1) (fun h5 => h5))) rfl r1 r2 ⟨rfl, hw.2.2⟩ r3) ⟨Pk_blind K _ X Y, hrecv, pre_at C hP hS (.ref (kad K a) :: As.map (trV K))⟩ rfl (by rw [List.length_map]; exact hn) hl0 hst2 (room8 hS8) hd ⟨r4.1, r4.2⟩) hS (fun H1 locs1 hP1 hS1 => h X1 Y1 out e2 p l e s m args below meth c H1 locs1 ls C hP1 hS1 hlo)
theorem j_callVr {index : Nat} {y : MethodName} {bytes : ByteArray} {maxL n : Nat} {retc : Option FieldType} {rm : Room} {a : Nat} {ra : Nat} {k : HI → HL → Option Out} (As : List Value) (hd : decode cc pc = .ok (.invokevirtual index, 3)) (hw : MW y bytes maxL retc n) (hv : MV y) (hl : Cond.methodLink own index y ∈ gw) (hob : OB a y.cls) (hst : st0 = As.reverse ++ .ref a :: S) (hn : As.length = n) (hc : CT K y bytes maxL retc rm (.ref a :: As) X Y o1) (hR : RM R rm maxL kc ns) (hS8 : (S.map (fun v => v.category)).sum ≤ 8) (hq : pc + 3 = q) (h : ∀ X1 Y1, JO K own cc nL ret R kc ns PZ q L (.ref ra :: S) X1 Y1 (k X1 Y1)) : JO K own cc nL ret R kc ns PZ pc L st0 X Y (br ra o1 k) := by
  intro out ho p l e s m args below meth c H locs ls C hP hS hlo
  subst hq
  have hl0 : ls.size = nL := hlo.1
  obtain ⟨X1, Y1, e1, e2⟩ := br_some ho
  have hM := hc _ e1 l
  obtain ⟨⟨r1, r2⟩, r3, r4⟩ := hR
  obtain ⟨oa, ci, q5, ob, oc, od⟩ := hob
  have hat : (wsOf K X Y)[a]? = some (kad K a, .inr (ci, (fB (X a) (Y a) a).map (trV K))) := by rw [ws_at oa, cB_o ob]
  have hrecv := va_recv C.ka hP oc hat
  rw [od] at hrecv
  have hst2 : st0.map (trV K) = (As.map (trV K)).reverse ++ .ref (kad K a) :: S.map (trV K) := by rw [hst, List.map_append, List.map_reverse]; rfl
  exact w_call (va_runV (As := As.map (trV K)) (rest := S.map (trV K)) ⟨C.ex, C.co, C.ml, C.ow, C.ts⟩ hM (cwV n C.ts (gw_good (fun w hw5 => by
    rcases List.mem_append.mp hw5 with h5 | h5
    · simp only [List.mem_cons, List.not_mem_nil, or_false] at h5
      rcases h5 with rfl | rfl | rfl | rfl
      · exact hl
      · exact hv.1
      · exact hv.2
      · exact hw.2.1
    · exact (List.mem_cons.mp h5).elim (fun e5 => by rw [e5]; exact hw.1) (fun h5 => h5))) rfl r1 r2 ⟨rfl, hw.2.2⟩ r3) ⟨Pk_blind K _ X Y, hrecv, pre_at C hP hS (.ref (kad K a) :: As.map (trV K))⟩ rfl (by rw [List.length_map]; exact hn) hl0 hst2 (room8 hS8) hd ⟨r4.1, r4.2⟩) hS (fun H1 locs1 hP1 hS1 => h X1 Y1 out e2 p l e s m args below meth c H1 locs1 ls C hP1 hS1 hlo)
theorem j_callVNi {index : Nat} {y : MethodName} {bytes : ByteArray} {maxL n : Nat} {retc : Option FieldType} {rm : Room} {a : Nat} {k : Int32 → HI → HL → Option Out} (As : List Value) (hd : decode cc pc = .ok (.invokevirtual index, 3)) (hw : MW y bytes maxL retc n) (hv : MV y) {host : String} (hl : Cond.methodLinkNest own index y host ∈ nw) (hob : OB a y.cls) (hst : st0 = As.reverse ++ .ref a :: S) (hn : As.length = n) (hc : CT K y bytes maxL retc rm (.ref a :: As) X Y o1) (hR : RM R rm maxL kc ns) (hS8 : (S.map (fun v => v.category)).sum ≤ 8) (hq : pc + 3 = q) (h : ∀ r X1 Y1, JO K own cc nL ret R kc ns PZ q L (.int r :: S) X1 Y1 (k r X1 Y1)) : JO K own cc nL ret R kc ns PZ pc L st0 X Y (bi o1 k) := by
  intro out ho p l e s m args below meth c H locs ls C hP hS hlo
  subst hq
  have hl0 : ls.size = nL := hlo.1
  obtain ⟨r, X1, Y1, e1, e2⟩ := bi_some ho
  have hM := hc _ e1 l
  obtain ⟨⟨r1, r2⟩, r3, r4⟩ := hR
  obtain ⟨oa, ci, q5, ob, oc, od⟩ := hob
  have hat : (wsOf K X Y)[a]? = some (kad K a, .inr (ci, (fB (X a) (Y a) a).map (trV K))) := by rw [ws_at oa, cB_o ob]
  have hrecv := va_recv C.ka hP oc hat
  rw [od] at hrecv
  have hst2 : st0.map (trV K) = (As.map (trV K)).reverse ++ .ref (kad K a) :: S.map (trV K) := by rw [hst, List.map_append, List.map_reverse]; rfl
  exact w_call (va_runVN (As := As.map (trV K)) (rest := S.map (trV K)) ⟨C.ex, C.co, C.ml, C.ow, C.ts⟩ hM ⟨va_cnB n C.ts (gw_good (fun w hw5 => (List.mem_cons.mp hw5).elim (fun e5 => by rw [e5]; exact hw.1) (fun h5 => h5))) rfl r1 r2 (C.ne _ hl) (C.ts _ hw.2.1) hw.2.2 r3, C.ts _ hv.1, C.ts _ hv.2⟩ ⟨Pk_blind K _ X Y, hrecv, pre_at C hP hS (.ref (kad K a) :: As.map (trV K))⟩ rfl (by rw [List.length_map]; exact hn) hl0 hst2 (room8 hS8) hd ⟨r4.1, r4.2⟩) hS (fun H1 locs1 hP1 hS1 => h r X1 Y1 out e2 p l e s m args below meth c H1 locs1 ls C hP1 hS1 hlo)
theorem j_callVNl {index : Nat} {y : MethodName} {bytes : ByteArray} {maxL n : Nat} {retc : Option FieldType} {rm : Room} {a : Nat} {k : Int64 → HI → HL → Option Out} (As : List Value) (hd : decode cc pc = .ok (.invokevirtual index, 3)) (hw : MW y bytes maxL retc n) (hv : MV y) {host : String} (hl : Cond.methodLinkNest own index y host ∈ nw) (hob : OB a y.cls) (hst : st0 = As.reverse ++ .ref a :: S) (hn : As.length = n) (hc : CT K y bytes maxL retc rm (.ref a :: As) X Y o1) (hR : RM R rm maxL kc ns) (hS8 : (S.map (fun v => v.category)).sum ≤ 8) (hq : pc + 3 = q) (h : ∀ r X1 Y1, JO K own cc nL ret R kc ns PZ q L (.long r :: S) X1 Y1 (k r X1 Y1)) : JO K own cc nL ret R kc ns PZ pc L st0 X Y (bl o1 k) := by
  intro out ho p l e s m args below meth c H locs ls C hP hS hlo
  subst hq
  have hl0 : ls.size = nL := hlo.1
  obtain ⟨r, X1, Y1, e1, e2⟩ := bl_some ho
  have hM := hc _ e1 l
  obtain ⟨⟨r1, r2⟩, r3, r4⟩ := hR
  obtain ⟨oa, ci, q5, ob, oc, od⟩ := hob
  have hat : (wsOf K X Y)[a]? = some (kad K a, .inr (ci, (fB (X a) (Y a) a).map (trV K))) := by rw [ws_at oa, cB_o ob]
  have hrecv := va_recv C.ka hP oc hat
  rw [od] at hrecv
  have hst2 : st0.map (trV K) = (As.map (trV K)).reverse ++ .ref (kad K a) :: S.map (trV K) := by rw [hst, List.map_append, List.map_reverse]; rfl
  exact w_call (va_runVN (As := As.map (trV K)) (rest := S.map (trV K)) ⟨C.ex, C.co, C.ml, C.ow, C.ts⟩ hM ⟨va_cnB n C.ts (gw_good (fun w hw5 => (List.mem_cons.mp hw5).elim (fun e5 => by rw [e5]; exact hw.1) (fun h5 => h5))) rfl r1 r2 (C.ne _ hl) (C.ts _ hw.2.1) hw.2.2 r3, C.ts _ hv.1, C.ts _ hv.2⟩ ⟨Pk_blind K _ X Y, hrecv, pre_at C hP hS (.ref (kad K a) :: As.map (trV K))⟩ rfl (by rw [List.length_map]; exact hn) hl0 hst2 (room8 hS8) hd ⟨r4.1, r4.2⟩) hS (fun H1 locs1 hP1 hS1 => h r X1 Y1 out e2 p l e s m args below meth c H1 locs1 ls C hP1 hS1 hlo)
theorem j_callVNv {index : Nat} {y : MethodName} {bytes : ByteArray} {maxL n : Nat} {retc : Option FieldType} {rm : Room} {a : Nat} {k : HI → HL → Option Out} (As : List Value) (hd : decode cc pc = .ok (.invokevirtual index, 3)) (hw : MW y bytes maxL retc n) (hv : MV y) {host : String} (hl : Cond.methodLinkNest own index y host ∈ nw) (hob : OB a y.cls) (hst : st0 = As.reverse ++ .ref a :: S) (hn : As.length = n) (hc : CT K y bytes maxL retc rm (.ref a :: As) X Y o1) (hR : RM R rm maxL kc ns) (hS8 : (S.map (fun v => v.category)).sum ≤ 8) (hq : pc + 3 = q) (h : ∀ X1 Y1, JO K own cc nL ret R kc ns PZ q L S X1 Y1 (k X1 Y1)) : JO K own cc nL ret R kc ns PZ pc L st0 X Y (bv o1 k) := by
  intro out ho p l e s m args below meth c H locs ls C hP hS hlo
  subst hq
  have hl0 : ls.size = nL := hlo.1
  obtain ⟨X1, Y1, e1, e2⟩ := bv_some ho
  have hM := hc _ e1 l
  obtain ⟨⟨r1, r2⟩, r3, r4⟩ := hR
  obtain ⟨oa, ci, q5, ob, oc, od⟩ := hob
  have hat : (wsOf K X Y)[a]? = some (kad K a, .inr (ci, (fB (X a) (Y a) a).map (trV K))) := by rw [ws_at oa, cB_o ob]
  have hrecv := va_recv C.ka hP oc hat
  rw [od] at hrecv
  have hst2 : st0.map (trV K) = (As.map (trV K)).reverse ++ .ref (kad K a) :: S.map (trV K) := by rw [hst, List.map_append, List.map_reverse]; rfl
  exact w_call (va_runVN (As := As.map (trV K)) (rest := S.map (trV K)) ⟨C.ex, C.co, C.ml, C.ow, C.ts⟩ hM ⟨va_cnB n C.ts (gw_good (fun w hw5 => (List.mem_cons.mp hw5).elim (fun e5 => by rw [e5]; exact hw.1) (fun h5 => h5))) rfl r1 r2 (C.ne _ hl) (C.ts _ hw.2.1) hw.2.2 r3, C.ts _ hv.1, C.ts _ hv.2⟩ ⟨Pk_blind K _ X Y, hrecv, pre_at C hP hS (.ref (kad K a) :: As.map (trV K))⟩ rfl (by rw [List.length_map]; exact hn) hl0 hst2 (room8 hS8) hd ⟨r4.1, r4.2⟩) hS (fun H1 locs1 hP1 hS1 => h X1 Y1 out e2 p l e s m args below meth c H1 locs1 ls C hP1 hS1 hlo)
theorem j_callVNr {index : Nat} {y : MethodName} {bytes : ByteArray} {maxL n : Nat} {retc : Option FieldType} {rm : Room} {a : Nat} {ra : Nat} {k : HI → HL → Option Out} (As : List Value) (hd : decode cc pc = .ok (.invokevirtual index, 3)) (hw : MW y bytes maxL retc n) (hv : MV y) {host : String} (hl : Cond.methodLinkNest own index y host ∈ nw) (hob : OB a y.cls) (hst : st0 = As.reverse ++ .ref a :: S) (hn : As.length = n) (hc : CT K y bytes maxL retc rm (.ref a :: As) X Y o1) (hR : RM R rm maxL kc ns) (hS8 : (S.map (fun v => v.category)).sum ≤ 8) (hq : pc + 3 = q) (h : ∀ X1 Y1, JO K own cc nL ret R kc ns PZ q L (.ref ra :: S) X1 Y1 (k X1 Y1)) : JO K own cc nL ret R kc ns PZ pc L st0 X Y (br ra o1 k) := by
  intro out ho p l e s m args below meth c H locs ls C hP hS hlo
  subst hq
  have hl0 : ls.size = nL := hlo.1
  obtain ⟨X1, Y1, e1, e2⟩ := br_some ho
  have hM := hc _ e1 l
  obtain ⟨⟨r1, r2⟩, r3, r4⟩ := hR
  obtain ⟨oa, ci, q5, ob, oc, od⟩ := hob
  have hat : (wsOf K X Y)[a]? = some (kad K a, .inr (ci, (fB (X a) (Y a) a).map (trV K))) := by rw [ws_at oa, cB_o ob]
  have hrecv := va_recv C.ka hP oc hat
  rw [od] at hrecv
  have hst2 : st0.map (trV K) = (As.map (trV K)).reverse ++ .ref (kad K a) :: S.map (trV K) := by rw [hst, List.map_append, List.map_reverse]; rfl
  exact w_call (va_runVN (As := As.map (trV K)) (rest := S.map (trV K)) ⟨C.ex, C.co, C.ml, C.ow, C.ts⟩ hM ⟨va_cnB n C.ts (gw_good (fun w hw5 => (List.mem_cons.mp hw5).elim (fun e5 => by rw [e5]; exact hw.1) (fun h5 => h5))) rfl r1 r2 (C.ne _ hl) (C.ts _ hw.2.1) hw.2.2 r3, C.ts _ hv.1, C.ts _ hv.2⟩ ⟨Pk_blind K _ X Y, hrecv, pre_at C hP hS (.ref (kad K a) :: As.map (trV K))⟩ rfl (by rw [List.length_map]; exact hn) hl0 hst2 (room8 hS8) hd ⟨r4.1, r4.2⟩) hS (fun H1 locs1 hP1 hS1 => h X1 Y1 out e2 p l e s m args below meth c H1 locs1 ls C hP1 hS1 hlo)
theorem j_callSi {index : Nat} {y : MethodName} {bytes : ByteArray} {maxL n : Nat} {retc : Option FieldType} {rm : Room} {k : Int32 → HI → HL → Option Out} (As : List Value) (hd : decode cc pc = .ok (.invokestatic index, 3)) (hw : MW y bytes maxL retc n) (hv : MS y) (hl : Cond.methodLink own index y ∈ gw) (hst : st0 = As.reverse ++ S) (hn : As.length = n) (hc : CT K y bytes maxL retc rm (As) X Y o1) (hR : RM R rm maxL kc ns) (hS8 : (S.map (fun v => v.category)).sum ≤ 8) (hq : pc + 3 = q) (h : ∀ r X1 Y1, JO K own cc nL ret R kc ns PZ q L (.int r :: S) X1 Y1 (k r X1 Y1)) : JO K own cc nL ret R kc ns PZ pc L st0 X Y (bi o1 k) := by
  intro out ho p l e s m args below meth c H locs ls C hP hS hlo
  subst hq
  have hl0 : ls.size = nL := hlo.1
  obtain ⟨r, X1, Y1, e1, e2⟩ := bi_some ho
  have hM := hc _ e1 l
  obtain ⟨⟨r1, r2⟩, r3, r4⟩ := hR
  have hst2 : st0.map (trV K) = (As.map (trV K)).reverse ++ S.map (trV K) := by rw [hst, List.map_append, List.map_reverse]
  exact w_call (va_runS (As := As.map (trV K)) (rest := S.map (trV K)) ⟨C.ex, C.co, C.ml, C.ow, C.ts⟩ hM (va_cwS n C.ts (gw_good (fun w hw5 => by
    rcases List.mem_append.mp hw5 with h5 | h5
    · simp only [List.mem_cons, List.not_mem_nil, or_false] at h5
      rcases h5 with rfl | rfl | rfl
      · exact hl
      · exact hv
      · exact hw.2.1
    · exact (List.mem_cons.mp h5).elim (fun e5 => by rw [e5]; exact hw.1) (fun h5 => h5))) rfl r1 r2 hw.2.2 r3) ⟨Pk_blind K _ X Y, pre_at C hP hS (As.map (trV K))⟩ rfl (by rw [List.length_map]; exact hn) hl0 hst2 (room8 hS8) hd ⟨r4.1, r4.2⟩) hS (fun H1 locs1 hP1 hS1 => h r X1 Y1 out e2 p l e s m args below meth c H1 locs1 ls C hP1 hS1 hlo)
theorem j_callSl {index : Nat} {y : MethodName} {bytes : ByteArray} {maxL n : Nat} {retc : Option FieldType} {rm : Room} {k : Int64 → HI → HL → Option Out} (As : List Value) (hd : decode cc pc = .ok (.invokestatic index, 3)) (hw : MW y bytes maxL retc n) (hv : MS y) (hl : Cond.methodLink own index y ∈ gw) (hst : st0 = As.reverse ++ S) (hn : As.length = n) (hc : CT K y bytes maxL retc rm (As) X Y o1) (hR : RM R rm maxL kc ns) (hS8 : (S.map (fun v => v.category)).sum ≤ 8) (hq : pc + 3 = q) (h : ∀ r X1 Y1, JO K own cc nL ret R kc ns PZ q L (.long r :: S) X1 Y1 (k r X1 Y1)) : JO K own cc nL ret R kc ns PZ pc L st0 X Y (bl o1 k) := by
  intro out ho p l e s m args below meth c H locs ls C hP hS hlo
  subst hq
  have hl0 : ls.size = nL := hlo.1
  obtain ⟨r, X1, Y1, e1, e2⟩ := bl_some ho
  have hM := hc _ e1 l
  obtain ⟨⟨r1, r2⟩, r3, r4⟩ := hR
  have hst2 : st0.map (trV K) = (As.map (trV K)).reverse ++ S.map (trV K) := by rw [hst, List.map_append, List.map_reverse]
  exact w_call (va_runS (As := As.map (trV K)) (rest := S.map (trV K)) ⟨C.ex, C.co, C.ml, C.ow, C.ts⟩ hM (va_cwS n C.ts (gw_good (fun w hw5 => by
    rcases List.mem_append.mp hw5 with h5 | h5
    · simp only [List.mem_cons, List.not_mem_nil, or_false] at h5
      rcases h5 with rfl | rfl | rfl
      · exact hl
      · exact hv
      · exact hw.2.1
    · exact (List.mem_cons.mp h5).elim (fun e5 => by rw [e5]; exact hw.1) (fun h5 => h5))) rfl r1 r2 hw.2.2 r3) ⟨Pk_blind K _ X Y, pre_at C hP hS (As.map (trV K))⟩ rfl (by rw [List.length_map]; exact hn) hl0 hst2 (room8 hS8) hd ⟨r4.1, r4.2⟩) hS (fun H1 locs1 hP1 hS1 => h r X1 Y1 out e2 p l e s m args below meth c H1 locs1 ls C hP1 hS1 hlo)
theorem j_callSv {index : Nat} {y : MethodName} {bytes : ByteArray} {maxL n : Nat} {retc : Option FieldType} {rm : Room} {k : HI → HL → Option Out} (As : List Value) (hd : decode cc pc = .ok (.invokestatic index, 3)) (hw : MW y bytes maxL retc n) (hv : MS y) (hl : Cond.methodLink own index y ∈ gw) (hst : st0 = As.reverse ++ S) (hn : As.length = n) (hc : CT K y bytes maxL retc rm (As) X Y o1) (hR : RM R rm maxL kc ns) (hS8 : (S.map (fun v => v.category)).sum ≤ 8) (hq : pc + 3 = q) (h : ∀ X1 Y1, JO K own cc nL ret R kc ns PZ q L S X1 Y1 (k X1 Y1)) : JO K own cc nL ret R kc ns PZ pc L st0 X Y (bv o1 k) := by
  intro out ho p l e s m args below meth c H locs ls C hP hS hlo
  subst hq
  have hl0 : ls.size = nL := hlo.1
  obtain ⟨X1, Y1, e1, e2⟩ := bv_some ho
  have hM := hc _ e1 l
  obtain ⟨⟨r1, r2⟩, r3, r4⟩ := hR
  have hst2 : st0.map (trV K) = (As.map (trV K)).reverse ++ S.map (trV K) := by rw [hst, List.map_append, List.map_reverse]
  exact w_call (va_runS (As := As.map (trV K)) (rest := S.map (trV K)) ⟨C.ex, C.co, C.ml, C.ow, C.ts⟩ hM (va_cwS n C.ts (gw_good (fun w hw5 => by
    rcases List.mem_append.mp hw5 with h5 | h5
    · simp only [List.mem_cons, List.not_mem_nil, or_false] at h5
      rcases h5 with rfl | rfl | rfl
      · exact hl
      · exact hv
      · exact hw.2.1
    · exact (List.mem_cons.mp h5).elim (fun e5 => by rw [e5]; exact hw.1) (fun h5 => h5))) rfl r1 r2 hw.2.2 r3) ⟨Pk_blind K _ X Y, pre_at C hP hS (As.map (trV K))⟩ rfl (by rw [List.length_map]; exact hn) hl0 hst2 (room8 hS8) hd ⟨r4.1, r4.2⟩) hS (fun H1 locs1 hP1 hS1 => h X1 Y1 out e2 p l e s m args below meth c H1 locs1 ls C hP1 hS1 hlo)
theorem j_callSr {index : Nat} {y : MethodName} {bytes : ByteArray} {maxL n : Nat} {retc : Option FieldType} {rm : Room} {ra : Nat} {k : HI → HL → Option Out} (As : List Value) (hd : decode cc pc = .ok (.invokestatic index, 3)) (hw : MW y bytes maxL retc n) (hv : MS y) (hl : Cond.methodLink own index y ∈ gw) (hst : st0 = As.reverse ++ S) (hn : As.length = n) (hc : CT K y bytes maxL retc rm (As) X Y o1) (hR : RM R rm maxL kc ns) (hS8 : (S.map (fun v => v.category)).sum ≤ 8) (hq : pc + 3 = q) (h : ∀ X1 Y1, JO K own cc nL ret R kc ns PZ q L (.ref ra :: S) X1 Y1 (k X1 Y1)) : JO K own cc nL ret R kc ns PZ pc L st0 X Y (br ra o1 k) := by
  intro out ho p l e s m args below meth c H locs ls C hP hS hlo
  subst hq
  have hl0 : ls.size = nL := hlo.1
  obtain ⟨X1, Y1, e1, e2⟩ := br_some ho
  have hM := hc _ e1 l
  obtain ⟨⟨r1, r2⟩, r3, r4⟩ := hR
  have hst2 : st0.map (trV K) = (As.map (trV K)).reverse ++ S.map (trV K) := by rw [hst, List.map_append, List.map_reverse]
  exact w_call (va_runS (As := As.map (trV K)) (rest := S.map (trV K)) ⟨C.ex, C.co, C.ml, C.ow, C.ts⟩ hM (va_cwS n C.ts (gw_good (fun w hw5 => by
    rcases List.mem_append.mp hw5 with h5 | h5
    · simp only [List.mem_cons, List.not_mem_nil, or_false] at h5
      rcases h5 with rfl | rfl | rfl
      · exact hl
      · exact hv
      · exact hw.2.1
    · exact (List.mem_cons.mp h5).elim (fun e5 => by rw [e5]; exact hw.1) (fun h5 => h5))) rfl r1 r2 hw.2.2 r3) ⟨Pk_blind K _ X Y, pre_at C hP hS (As.map (trV K))⟩ rfl (by rw [List.length_map]; exact hn) hl0 hst2 (room8 hS8) hd ⟨r4.1, r4.2⟩) hS (fun H1 locs1 hP1 hS1 => h X1 Y1 out e2 p l e s m args below meth c H1 locs1 ls C hP1 hS1 hlo)
theorem j_callSNi {index : Nat} {y : MethodName} {bytes : ByteArray} {maxL n : Nat} {retc : Option FieldType} {rm : Room} {k : Int32 → HI → HL → Option Out} (As : List Value) (hd : decode cc pc = .ok (.invokestatic index, 3)) (hw : MW y bytes maxL retc n) (hv : MS y) {host : String} (hl : Cond.methodLinkNest own index y host ∈ nw) (hst : st0 = As.reverse ++ S) (hn : As.length = n) (hc : CT K y bytes maxL retc rm (As) X Y o1) (hR : RM R rm maxL kc ns) (hS8 : (S.map (fun v => v.category)).sum ≤ 8) (hq : pc + 3 = q) (h : ∀ r X1 Y1, JO K own cc nL ret R kc ns PZ q L (.int r :: S) X1 Y1 (k r X1 Y1)) : JO K own cc nL ret R kc ns PZ pc L st0 X Y (bi o1 k) := by
  intro out ho p l e s m args below meth c H locs ls C hP hS hlo
  subst hq
  have hl0 : ls.size = nL := hlo.1
  obtain ⟨r, X1, Y1, e1, e2⟩ := bi_some ho
  have hM := hc _ e1 l
  obtain ⟨⟨r1, r2⟩, r3, r4⟩ := hR
  have hst2 : st0.map (trV K) = (As.map (trV K)).reverse ++ S.map (trV K) := by rw [hst, List.map_append, List.map_reverse]
  exact w_call (va_runSN (As := As.map (trV K)) (rest := S.map (trV K)) ⟨C.ex, C.co, C.ml, C.ow, C.ts⟩ hM ⟨va_cnB n C.ts (gw_good (fun w hw5 => (List.mem_cons.mp hw5).elim (fun e5 => by rw [e5]; exact hw.1) (fun h5 => h5))) rfl r1 r2 (C.ne _ hl) (C.ts _ hw.2.1) hw.2.2 r3, C.ts _ hv, trivial⟩ ⟨Pk_blind K _ X Y, pre_at C hP hS (As.map (trV K))⟩ rfl (by rw [List.length_map]; exact hn) hl0 hst2 (room8 hS8) hd ⟨r4.1, r4.2⟩) hS (fun H1 locs1 hP1 hS1 => h r X1 Y1 out e2 p l e s m args below meth c H1 locs1 ls C hP1 hS1 hlo)
theorem j_callSNl {index : Nat} {y : MethodName} {bytes : ByteArray} {maxL n : Nat} {retc : Option FieldType} {rm : Room} {k : Int64 → HI → HL → Option Out} (As : List Value) (hd : decode cc pc = .ok (.invokestatic index, 3)) (hw : MW y bytes maxL retc n) (hv : MS y) {host : String} (hl : Cond.methodLinkNest own index y host ∈ nw) (hst : st0 = As.reverse ++ S) (hn : As.length = n) (hc : CT K y bytes maxL retc rm (As) X Y o1) (hR : RM R rm maxL kc ns) (hS8 : (S.map (fun v => v.category)).sum ≤ 8) (hq : pc + 3 = q) (h : ∀ r X1 Y1, JO K own cc nL ret R kc ns PZ q L (.long r :: S) X1 Y1 (k r X1 Y1)) : JO K own cc nL ret R kc ns PZ pc L st0 X Y (bl o1 k) := by
  intro out ho p l e s m args below meth c H locs ls C hP hS hlo
  subst hq
  have hl0 : ls.size = nL := hlo.1
  obtain ⟨r, X1, Y1, e1, e2⟩ := bl_some ho
  have hM := hc _ e1 l
  obtain ⟨⟨r1, r2⟩, r3, r4⟩ := hR
  have hst2 : st0.map (trV K) = (As.map (trV K)).reverse ++ S.map (trV K) := by rw [hst, List.map_append, List.map_reverse]
  exact w_call (va_runSN (As := As.map (trV K)) (rest := S.map (trV K)) ⟨C.ex, C.co, C.ml, C.ow, C.ts⟩ hM ⟨va_cnB n C.ts (gw_good (fun w hw5 => (List.mem_cons.mp hw5).elim (fun e5 => by rw [e5]; exact hw.1) (fun h5 => h5))) rfl r1 r2 (C.ne _ hl) (C.ts _ hw.2.1) hw.2.2 r3, C.ts _ hv, trivial⟩ ⟨Pk_blind K _ X Y, pre_at C hP hS (As.map (trV K))⟩ rfl (by rw [List.length_map]; exact hn) hl0 hst2 (room8 hS8) hd ⟨r4.1, r4.2⟩) hS (fun H1 locs1 hP1 hS1 => h r X1 Y1 out e2 p l e s m args below meth c H1 locs1 ls C hP1 hS1 hlo)
theorem j_callSNv {index : Nat} {y : MethodName} {bytes : ByteArray} {maxL n : Nat} {retc : Option FieldType} {rm : Room} {k : HI → HL → Option Out} (As : List Value) (hd : decode cc pc = .ok (.invokestatic index, 3)) (hw : MW y bytes maxL retc n) (hv : MS y) {host : String} (hl : Cond.methodLinkNest own index y host ∈ nw) (hst : st0 = As.reverse ++ S) (hn : As.length = n) (hc : CT K y bytes maxL retc rm (As) X Y o1) (hR : RM R rm maxL kc ns) (hS8 : (S.map (fun v => v.category)).sum ≤ 8) (hq : pc + 3 = q) (h : ∀ X1 Y1, JO K own cc nL ret R kc ns PZ q L S X1 Y1 (k X1 Y1)) : JO K own cc nL ret R kc ns PZ pc L st0 X Y (bv o1 k) := by
  intro out ho p l e s m args below meth c H locs ls C hP hS hlo
  subst hq
  have hl0 : ls.size = nL := hlo.1
  obtain ⟨X1, Y1, e1, e2⟩ := bv_some ho
  have hM := hc _ e1 l
  obtain ⟨⟨r1, r2⟩, r3, r4⟩ := hR
  have hst2 : st0.map (trV K) = (As.map (trV K)).reverse ++ S.map (trV K) := by rw [hst, List.map_append, List.map_reverse]
  exact w_call (va_runSN (As := As.map (trV K)) (rest := S.map (trV K)) ⟨C.ex, C.co, C.ml, C.ow, C.ts⟩ hM ⟨va_cnB n C.ts (gw_good (fun w hw5 => (List.mem_cons.mp hw5).elim (fun e5 => by rw [e5]; exact hw.1) (fun h5 => h5))) rfl r1 r2 (C.ne _ hl) (C.ts _ hw.2.1) hw.2.2 r3, C.ts _ hv, trivial⟩ ⟨Pk_blind K _ X Y, pre_at C hP hS (As.map (trV K))⟩ rfl (by rw [List.length_map]; exact hn) hl0 hst2 (room8 hS8) hd ⟨r4.1, r4.2⟩) hS (fun H1 locs1 hP1 hS1 => h X1 Y1 out e2 p l e s m args below meth c H1 locs1 ls C hP1 hS1 hlo)
theorem j_callSNr {index : Nat} {y : MethodName} {bytes : ByteArray} {maxL n : Nat} {retc : Option FieldType} {rm : Room} {ra : Nat} {k : HI → HL → Option Out} (As : List Value) (hd : decode cc pc = .ok (.invokestatic index, 3)) (hw : MW y bytes maxL retc n) (hv : MS y) {host : String} (hl : Cond.methodLinkNest own index y host ∈ nw) (hst : st0 = As.reverse ++ S) (hn : As.length = n) (hc : CT K y bytes maxL retc rm (As) X Y o1) (hR : RM R rm maxL kc ns) (hS8 : (S.map (fun v => v.category)).sum ≤ 8) (hq : pc + 3 = q) (h : ∀ X1 Y1, JO K own cc nL ret R kc ns PZ q L (.ref ra :: S) X1 Y1 (k X1 Y1)) : JO K own cc nL ret R kc ns PZ pc L st0 X Y (br ra o1 k) := by
  intro out ho p l e s m args below meth c H locs ls C hP hS hlo
  subst hq
  have hl0 : ls.size = nL := hlo.1
  obtain ⟨X1, Y1, e1, e2⟩ := br_some ho
  have hM := hc _ e1 l
  obtain ⟨⟨r1, r2⟩, r3, r4⟩ := hR
  have hst2 : st0.map (trV K) = (As.map (trV K)).reverse ++ S.map (trV K) := by rw [hst, List.map_append, List.map_reverse]
  exact w_call (va_runSN (As := As.map (trV K)) (rest := S.map (trV K)) ⟨C.ex, C.co, C.ml, C.ow, C.ts⟩ hM ⟨va_cnB n C.ts (gw_good (fun w hw5 => (List.mem_cons.mp hw5).elim (fun e5 => by rw [e5]; exact hw.1) (fun h5 => h5))) rfl r1 r2 (C.ne _ hl) (C.ts _ hw.2.1) hw.2.2 r3, C.ts _ hv, trivial⟩ ⟨Pk_blind K _ X Y, pre_at C hP hS (As.map (trV K))⟩ rfl (by rw [List.length_map]; exact hn) hl0 hst2 (room8 hS8) hd ⟨r4.1, r4.2⟩) hS (fun H1 locs1 hP1 hS1 => h X1 Y1 out e2 p l e s m args below meth c H1 locs1 ls C hP1 hS1 hlo)
end JC
end
section
/-! names, words, shapes (written by program) -/
def y_Pan_init : MethodName := ⟨"BrinePans$Pans", "<init>", "(LBrinePans$Ground;)V"⟩
def y_Act_init : MethodName := ⟨"BrinePans$Acts", "<init>", "(LBrinePans$Ground;)V"⟩
def y_Act_clear : MethodName := ⟨"BrinePans$Acts", "clear", "()V"⟩
abbrev rm_Act_clear : Room := { frames := 0, cells := 0, slots := 0, locals := 0 }
theorem mw_Act_clear : MW y_Act_clear prog_2_method_2_code 1 none 0 := ⟨gw_t 229 (by decide +kernel) (by decide +kernel), gw_t 5 (by decide +kernel) (by decide +kernel), (by decide +kernel)⟩
theorem mv_Act_clear : MV y_Act_clear := ⟨gw_t 228 (by decide +kernel) (by decide +kernel), gw_s 9 (by decide +kernel) (by decide +kernel)⟩
def y_Mth_min : MethodName := ⟨"java/lang/Math", "min", "(II)I"⟩
abbrev rm_Mth_min : Room := { frames := 0, cells := 0, slots := 0, locals := 0 }
theorem mw_Mth_min : MW y_Mth_min prog_10_method_69_code 2 (some .int) 2 := ⟨gw_t 325 (by decide +kernel) (by decide +kernel), gw_t 8 (by decide +kernel) (by decide +kernel), (by decide +kernel)⟩
theorem ms_Mth_min : MS y_Mth_min := gw_t 324 (by decide +kernel) (by decide +kernel)
def y_Pan_copy : MethodName := ⟨"BrinePans$Pans", "copy", "(LBrinePans$Pans;)V"⟩
abbrev rm_Pan_copy : Room := { frames := 0, cells := 0, slots := 0, locals := 0 }
theorem mw_Pan_copy : MW y_Pan_copy prog_5_method_3_code 3 none 1 := ⟨gw_t 291 (by decide +kernel) (by decide +kernel), gw_t 4 (by decide +kernel) (by decide +kernel), (by decide +kernel)⟩
theorem mv_Pan_copy : MV y_Pan_copy := ⟨gw_t 290 (by decide +kernel) (by decide +kernel), gw_s 21 (by decide +kernel) (by decide +kernel)⟩
def y_Act_add : MethodName := ⟨"BrinePans$Acts", "add", "(LBrinePans$Pans;)V"⟩
abbrev rm_Act_add : Room := { frames := 1, cells := 0, slots := 0, locals := 22 }
theorem mw_Act_add : MW y_Act_add prog_2_method_3_code 2 none 1 := ⟨gw_t 345 (by decide +kernel) (by decide +kernel), gw_t 5 (by decide +kernel) (by decide +kernel), (by decide +kernel)⟩
theorem mv_Act_add : MV y_Act_add := ⟨gw_t 344 (by decide +kernel) (by decide +kernel), gw_s 32 (by decide +kernel) (by decide +kernel)⟩
def y_Act_takeBack : MethodName := ⟨"BrinePans$Acts", "takeBack", "(LBrinePans$Pans;)I"⟩
abbrev rm_Act_takeBack : Room := { frames := 1, cells := 0, slots := 0, locals := 22 }
theorem mw_Act_takeBack : MW y_Act_takeBack prog_2_method_4_code 2 (some .int) 1 := ⟨gw_t 389 (by decide +kernel) (by decide +kernel), gw_t 5 (by decide +kernel) (by decide +kernel), (by decide +kernel)⟩
theorem mv_Act_takeBack : MV y_Act_takeBack := ⟨gw_t 388 (by decide +kernel) (by decide +kernel), gw_s 37 (by decide +kernel) (by decide +kernel)⟩
def y_Fin_init : MethodName := ⟨"BrinePans$Finds", "<init>", "()V"⟩
def y_Fin_add : MethodName := ⟨"BrinePans$Finds", "add", "(III)I"⟩
abbrev rm_Fin_add : Room := { frames := 0, cells := 0, slots := 0, locals := 0 }
theorem mw_Fin_add : MW y_Fin_add prog_3_method_2_code 4 (some .int) 3 := ⟨gw_t 468 (by decide +kernel) (by decide +kernel), gw_t 6 (by decide +kernel) (by decide +kernel), (by decide +kernel)⟩
theorem mv_Fin_add : MV y_Fin_add := ⟨gw_t 467 (by decide +kernel) (by decide +kernel), gw_s 41 (by decide +kernel) (by decide +kernel)⟩
def y_Fin_clear : MethodName := ⟨"BrinePans$Finds", "clear", "()I"⟩
abbrev rm_Fin_clear : Room := { frames := 0, cells := 0, slots := 0, locals := 0 }
theorem mw_Fin_clear : MW y_Fin_clear prog_3_method_3_code 2 (some .int) 0 := ⟨gw_t 476 (by decide +kernel) (by decide +kernel), gw_t 6 (by decide +kernel) (by decide +kernel), (by decide +kernel)⟩
theorem mv_Fin_clear : MV y_Fin_clear := ⟨gw_t 475 (by decide +kernel) (by decide +kernel), gw_s 42 (by decide +kernel) (by decide +kernel)⟩
def y_Fin_allow : MethodName := ⟨"BrinePans$Finds", "allow", "(I)Z"⟩
abbrev rm_Fin_allow : Room := { frames := 1, cells := 0, slots := 0, locals := 21 }
theorem mw_Fin_allow : MW y_Fin_allow prog_3_method_4_code 4 (some .boolean) 1 := ⟨gw_t 484 (by decide +kernel) (by decide +kernel), gw_t 6 (by decide +kernel) (by decide +kernel), (by decide +kernel)⟩
theorem mv_Fin_allow : MV y_Fin_allow := ⟨gw_t 483 (by decide +kernel) (by decide +kernel), gw_s 43 (by decide +kernel) (by decide +kernel)⟩
def y_Gro_init : MethodName := ⟨"BrinePans$Ground", "<init>", "()V"⟩
def y_Gro_clear : MethodName := ⟨"BrinePans$Ground", "clear", "()V"⟩
abbrev rm_Gro_clear : Room := { frames := 0, cells := 0, slots := 0, locals := 0 }
theorem mw_Gro_clear : MW y_Gro_clear prog_4_method_2_code 1 none 0 := ⟨gw_t 209 (by decide +kernel) (by decide +kernel), gw_t 3 (by decide +kernel) (by decide +kernel), (by decide +kernel)⟩
theorem mv_Gro_clear : MV y_Gro_clear := ⟨gw_t 208 (by decide +kernel) (by decide +kernel), gw_s 4 (by decide +kernel) (by decide +kernel)⟩
def y_Gro_addPan : MethodName := ⟨"BrinePans$Ground", "addPan", "(I)V"⟩
abbrev rm_Gro_addPan : Room := { frames := 0, cells := 0, slots := 0, locals := 0 }
theorem mw_Gro_addPan : MW y_Gro_addPan prog_4_method_3_code 2 none 1 := ⟨gw_t 221 (by decide +kernel) (by decide +kernel), gw_t 3 (by decide +kernel) (by decide +kernel), (by decide +kernel)⟩
theorem mv_Gro_addPan : MV y_Gro_addPan := ⟨gw_t 220 (by decide +kernel) (by decide +kernel), gw_s 7 (by decide +kernel) (by decide +kernel)⟩
def y_Gro_addSky : MethodName := ⟨"BrinePans$Ground", "addSky", "(I)V"⟩
abbrev rm_Gro_addSky : Room := { frames := 0, cells := 0, slots := 0, locals := 0 }
theorem mw_Gro_addSky : MW y_Gro_addSky prog_4_method_4_code 2 none 1 := ⟨gw_t 225 (by decide +kernel) (by decide +kernel), gw_t 3 (by decide +kernel) (by decide +kernel), (by decide +kernel)⟩
theorem mv_Gro_addSky : MV y_Gro_addSky := ⟨gw_t 224 (by decide +kernel) (by decide +kernel), gw_s 8 (by decide +kernel) (by decide +kernel)⟩
def y_Gro_hasPan : MethodName := ⟨"BrinePans$Ground", "hasPan", "(I)Z"⟩
abbrev rm_Gro_hasPan : Room := { frames := 0, cells := 0, slots := 0, locals := 0 }
theorem mw_Gro_hasPan : MW y_Gro_hasPan prog_4_method_5_code 2 (some .boolean) 1 := ⟨gw_t 269 (by decide +kernel) (by decide +kernel), gw_t 3 (by decide +kernel) (by decide +kernel), (by decide +kernel)⟩
theorem mv_Gro_hasPan : MV y_Gro_hasPan := ⟨gw_t 268 (by decide +kernel) (by decide +kernel), gw_s 17 (by decide +kernel) (by decide +kernel)⟩
def y_Gro_gateCount : MethodName := ⟨"BrinePans$Ground", "gateCount", "()I"⟩
abbrev rm_Gro_gateCount : Room := { frames := 0, cells := 0, slots := 0, locals := 0 }
theorem mw_Gro_gateCount : MW y_Gro_gateCount prog_4_method_6_code 1 (some .int) 0 := ⟨gw_t 299 (by decide +kernel) (by decide +kernel), gw_t 3 (by decide +kernel) (by decide +kernel), (by decide +kernel)⟩
theorem mv_Gro_gateCount : MV y_Gro_gateCount := ⟨gw_t 298 (by decide +kernel) (by decide +kernel), gw_s 23 (by decide +kernel) (by decide +kernel)⟩
def y_Gro_hasGate : MethodName := ⟨"BrinePans$Ground", "hasGate", "(I)Z"⟩
abbrev rm_Gro_hasGate : Room := { frames := 1, cells := 0, slots := 0, locals := 20 }
theorem mw_Gro_hasGate : MW y_Gro_hasGate prog_4_method_7_code 2 (some .boolean) 1 := ⟨gw_t 311 (by decide +kernel) (by decide +kernel), gw_t 3 (by decide +kernel) (by decide +kernel), (by decide +kernel)⟩
theorem mv_Gro_hasGate : MV y_Gro_hasGate := ⟨gw_t 310 (by decide +kernel) (by decide +kernel), gw_s 26 (by decide +kernel) (by decide +kernel)⟩
def y_Gro_skyOf : MethodName := ⟨"BrinePans$Ground", "skyOf", "(I)I"⟩
abbrev rm_Gro_skyOf : Room := { frames := 0, cells := 0, slots := 0, locals := 0 }
theorem mw_Gro_skyOf : MW y_Gro_skyOf prog_4_method_8_code 2 (some .int) 1 := ⟨gw_t 237 (by decide +kernel) (by decide +kernel), gw_t 3 (by decide +kernel) (by decide +kernel), (by decide +kernel)⟩
theorem mv_Gro_skyOf : MV y_Gro_skyOf := ⟨gw_t 236 (by decide +kernel) (by decide +kernel), gw_s 10 (by decide +kernel) (by decide +kernel)⟩
def y_Gro_depthOf : MethodName := ⟨"BrinePans$Ground", "depthOf", "(I)I"⟩
abbrev rm_Gro_depthOf : Room := { frames := 0, cells := 0, slots := 0, locals := 0 }
theorem mw_Gro_depthOf : MW y_Gro_depthOf prog_4_method_9_code 2 (some .int) 1 := ⟨gw_t 279 (by decide +kernel) (by decide +kernel), gw_t 3 (by decide +kernel) (by decide +kernel), (by decide +kernel)⟩
theorem mv_Gro_depthOf : MV y_Gro_depthOf := ⟨gw_t 278 (by decide +kernel) (by decide +kernel), gw_s 19 (by decide +kernel) (by decide +kernel)⟩
def y_Pan_emptyAllBut : MethodName := ⟨"BrinePans$Pans", "emptyAllBut", "(I)V"⟩
abbrev rm_Pan_emptyAllBut : Room := { frames := 0, cells := 0, slots := 0, locals := 0 }
theorem mw_Pan_emptyAllBut : MW y_Pan_emptyAllBut prog_5_method_4_code 3 none 1 := ⟨gw_t 217 (by decide +kernel) (by decide +kernel), gw_t 4 (by decide +kernel) (by decide +kernel), (by decide +kernel)⟩
theorem mv_Pan_emptyAllBut : MV y_Pan_emptyAllBut := ⟨gw_t 216 (by decide +kernel) (by decide +kernel), gw_s 6 (by decide +kernel) (by decide +kernel)⟩
def y_Pan_clear : MethodName := ⟨"BrinePans$Pans", "clear", "()V"⟩
abbrev rm_Pan_clear : Room := { frames := 1, cells := 0, slots := 0, locals := 22 }
theorem mw_Pan_clear : MW y_Pan_clear prog_5_method_2_code 1 none 0 := ⟨gw_t 213 (by decide +kernel) (by decide +kernel), gw_t 4 (by decide +kernel) (by decide +kernel), (by decide +kernel)⟩
theorem mv_Pan_clear : MV y_Pan_clear := ⟨gw_t 212 (by decide +kernel) (by decide +kernel), gw_s 5 (by decide +kernel) (by decide +kernel)⟩
def y_Pan_brineOf : MethodName := ⟨"BrinePans$Pans", "brineOf", "(I)I"⟩
abbrev rm_Pan_brineOf : Room := { frames := 0, cells := 0, slots := 0, locals := 0 }
theorem mw_Pan_brineOf : MW y_Pan_brineOf prog_5_method_5_code 3 (some .int) 1 := ⟨gw_t 253 (by decide +kernel) (by decide +kernel), gw_t 4 (by decide +kernel) (by decide +kernel), (by decide +kernel)⟩
theorem mv_Pan_brineOf : MV y_Pan_brineOf := ⟨gw_t 252 (by decide +kernel) (by decide +kernel), gw_s 14 (by decide +kernel) (by decide +kernel)⟩
def y_Pan_crustOf : MethodName := ⟨"BrinePans$Pans", "crustOf", "(I)I"⟩
abbrev rm_Pan_crustOf : Room := { frames := 1, cells := 0, slots := 0, locals := 22 }
theorem mw_Pan_crustOf : MW y_Pan_crustOf prog_5_method_6_code 2 (some .int) 1 := ⟨gw_t 249 (by decide +kernel) (by decide +kernel), gw_t 4 (by decide +kernel) (by decide +kernel), (by decide +kernel)⟩
theorem mv_Pan_crustOf : MV y_Pan_crustOf := ⟨gw_t 248 (by decide +kernel) (by decide +kernel), gw_s 13 (by decide +kernel) (by decide +kernel)⟩
def y_Pan_roomOf : MethodName := ⟨"BrinePans$Pans", "roomOf", "(I)I"⟩
abbrev rm_Pan_roomOf : Room := { frames := 1, cells := 0, slots := 0, locals := 21 }
theorem mw_Pan_roomOf : MW y_Pan_roomOf prog_5_method_7_code 2 (some .int) 1 := ⟨gw_t 275 (by decide +kernel) (by decide +kernel), gw_t 4 (by decide +kernel) (by decide +kernel), (by decide +kernel)⟩
theorem mv_Pan_roomOf : MV y_Pan_roomOf := ⟨gw_t 274 (by decide +kernel) (by decide +kernel), gw_s 18 (by decide +kernel) (by decide +kernel)⟩
def y_Pan_sumOf : MethodName := ⟨"BrinePans$Pans", "sumOf", "([I)I"⟩
abbrev rm_Pan_sumOf : Room := { frames := 0, cells := 0, slots := 0, locals := 0 }
theorem mw_Pan_sumOf : MW y_Pan_sumOf prog_5_method_8_code 4 (some .int) 1 := ⟨gw_t 241 (by decide +kernel) (by decide +kernel), gw_t 4 (by decide +kernel) (by decide +kernel), (by decide +kernel)⟩
theorem mv_Pan_sumOf : MV y_Pan_sumOf := ⟨gw_t 240 (by decide +kernel) (by decide +kernel), gw_s 11 (by decide +kernel) (by decide +kernel)⟩
def y_Pan_crustOfAll : MethodName := ⟨"BrinePans$Pans", "crustOfAll", "()I"⟩
abbrev rm_Pan_crustOfAll : Room := { frames := 2, cells := 0, slots := 0, locals := 43 }
theorem mw_Pan_crustOfAll : MW y_Pan_crustOfAll prog_5_method_9_code 3 (some .int) 0 := ⟨gw_t 245 (by decide +kernel) (by decide +kernel), gw_t 4 (by decide +kernel) (by decide +kernel), (by decide +kernel)⟩
theorem mv_Pan_crustOfAll : MV y_Pan_crustOfAll := ⟨gw_t 244 (by decide +kernel) (by decide +kernel), gw_s 12 (by decide +kernel) (by decide +kernel)⟩
def y_Pan_canRake : MethodName := ⟨"BrinePans$Pans", "canRake", "(I)Z"⟩
abbrev rm_Pan_canRake : Room := { frames := 2, cells := 0, slots := 0, locals := 43 }
theorem mw_Pan_canRake : MW y_Pan_canRake prog_5_method_10_code 2 (some .boolean) 1 := ⟨gw_t 261 (by decide +kernel) (by decide +kernel), gw_t 4 (by decide +kernel) (by decide +kernel), (by decide +kernel)⟩
theorem mv_Pan_canRake : MV y_Pan_canRake := ⟨gw_t 260 (by decide +kernel) (by decide +kernel), gw_s 16 (by decide +kernel) (by decide +kernel)⟩
def y_Pan_rakeable : MethodName := ⟨"BrinePans$Pans", "rakeable", "()I"⟩
abbrev rm_Pan_rakeable : Room := { frames := 3, cells := 0, slots := 0, locals := 64 }
theorem mw_Pan_rakeable : MW y_Pan_rakeable prog_5_method_11_code 3 (some .int) 0 := ⟨gw_t 257 (by decide +kernel) (by decide +kernel), gw_t 4 (by decide +kernel) (by decide +kernel), (by decide +kernel)⟩
theorem mv_Pan_rakeable : MV y_Pan_rakeable := ⟨gw_t 256 (by decide +kernel) (by decide +kernel), gw_s 15 (by decide +kernel) (by decide +kernel)⟩
def y_Pan_isOpen : MethodName := ⟨"BrinePans$Pans", "isOpen", "(I)Z"⟩
abbrev rm_Pan_isOpen : Room := { frames := 0, cells := 0, slots := 0, locals := 0 }
theorem mw_Pan_isOpen : MW y_Pan_isOpen prog_5_method_12_code 2 (some .boolean) 1 := ⟨gw_t 303 (by decide +kernel) (by decide +kernel), gw_t 4 (by decide +kernel) (by decide +kernel), (by decide +kernel)⟩
theorem mv_Pan_isOpen : MV y_Pan_isOpen := ⟨gw_t 302 (by decide +kernel) (by decide +kernel), gw_s 24 (by decide +kernel) (by decide +kernel)⟩
def y_Pan_setGate : MethodName := ⟨"BrinePans$Pans", "setGate", "(IZ)V"⟩
abbrev rm_Pan_setGate : Room := { frames := 1, cells := 0, slots := 0, locals := 21 }
theorem mw_Pan_setGate : MW y_Pan_setGate prog_5_method_13_code 3 none 2 := ⟨gw_t 373 (by decide +kernel) (by decide +kernel), gw_t 4 (by decide +kernel) (by decide +kernel), (by decide +kernel)⟩
theorem mv_Pan_setGate : MV y_Pan_setGate := ⟨gw_t 372 (by decide +kernel) (by decide +kernel), gw_s 35 (by decide +kernel) (by decide +kernel)⟩
def y_Pan_drain : MethodName := ⟨"BrinePans$Pans", "drain", "(II)I"⟩
abbrev rm_Pan_drain : Room := { frames := 1, cells := 0, slots := 0, locals := 22 }
theorem mw_Pan_drain : MW y_Pan_drain prog_5_method_14_code 4 (some .int) 2 := ⟨gw_t 318 (by decide +kernel) (by decide +kernel), gw_t 4 (by decide +kernel) (by decide +kernel), (by decide +kernel)⟩
theorem mv_Pan_drain : MV y_Pan_drain := ⟨gw_t 317 (by decide +kernel) (by decide +kernel), gw_s 27 (by decide +kernel) (by decide +kernel)⟩
def y_Pan_fill : MethodName := ⟨"BrinePans$Pans", "fill", "(III)V"⟩
abbrev rm_Pan_fill : Room := { frames := 1, cells := 0, slots := 0, locals := 21 }
theorem mw_Pan_fill : MW y_Pan_fill prog_5_method_15_code 4 none 3 := ⟨gw_t 322 (by decide +kernel) (by decide +kernel), gw_t 4 (by decide +kernel) (by decide +kernel), (by decide +kernel)⟩
theorem mv_Pan_fill : MV y_Pan_fill := ⟨gw_t 321 (by decide +kernel) (by decide +kernel), gw_s 28 (by decide +kernel) (by decide +kernel)⟩
def y_Bri_isFromTo : MethodName := ⟨"BrinePans", "isFromTo", "(III)Z"⟩
abbrev rm_Bri_isFromTo : Room := { frames := 0, cells := 0, slots := 0, locals := 0 }
theorem mw_Bri_isFromTo : MW y_Bri_isFromTo prog_1_method_34_code 3 (some .boolean) 3 := ⟨gw_t 197 (by decide +kernel) (by decide +kernel), gw_t 1 (by decide +kernel) (by decide +kernel), (by decide +kernel)⟩
theorem ms_Bri_isFromTo : MS y_Bri_isFromTo := gw_t 196 (by decide +kernel) (by decide +kernel)
def y_Pan_takeSea : MethodName := ⟨"BrinePans$Pans", "takeSea", "(I)I"⟩
abbrev rm_Pan_takeSea : Room := { frames := 2, cells := 0, slots := 0, locals := 44 }
theorem mw_Pan_takeSea : MW y_Pan_takeSea prog_5_method_16_code 2 (some .int) 1 := ⟨gw_t 355 (by decide +kernel) (by decide +kernel), gw_t 4 (by decide +kernel) (by decide +kernel), (by decide +kernel)⟩
theorem mv_Pan_takeSea : MV y_Pan_takeSea := ⟨gw_t 354 (by decide +kernel) (by decide +kernel), gw_s 33 (by decide +kernel) (by decide +kernel)⟩
def y_Pan_letOn : MethodName := ⟨"BrinePans$Pans", "letOn", "(II)I"⟩
abbrev rm_Pan_letOn : Room := { frames := 2, cells := 0, slots := 0, locals := 45 }
theorem mw_Pan_letOn : MW y_Pan_letOn prog_5_method_17_code 4 (some .int) 2 := ⟨gw_t 307 (by decide +kernel) (by decide +kernel), gw_t 4 (by decide +kernel) (by decide +kernel), (by decide +kernel)⟩
theorem mv_Pan_letOn : MV y_Pan_letOn := ⟨gw_t 306 (by decide +kernel) (by decide +kernel), gw_s 25 (by decide +kernel) (by decide +kernel)⟩
def y_Pan_turnGate : MethodName := ⟨"BrinePans$Pans", "turnGate", "(I)I"⟩
abbrev rm_Pan_turnGate : Room := { frames := 2, cells := 0, slots := 0, locals := 43 }
theorem mw_Pan_turnGate : MW y_Pan_turnGate prog_5_method_18_code 2 (some .int) 1 := ⟨gw_t 369 (by decide +kernel) (by decide +kernel), gw_t 4 (by decide +kernel) (by decide +kernel), (by decide +kernel)⟩
theorem mv_Pan_turnGate : MV y_Pan_turnGate := ⟨gw_t 368 (by decide +kernel) (by decide +kernel), gw_s 34 (by decide +kernel) (by decide +kernel)⟩
def y_Pan_rakeUp : MethodName := ⟨"BrinePans$Pans", "rakeUp", "(I)I"⟩
abbrev rm_Pan_rakeUp : Room := { frames := 3, cells := 0, slots := 0, locals := 64 }
theorem mw_Pan_rakeUp : MW y_Pan_rakeUp prog_5_method_19_code 3 (some .int) 1 := ⟨gw_t 381 (by decide +kernel) (by decide +kernel), gw_t 4 (by decide +kernel) (by decide +kernel), (by decide +kernel)⟩
theorem mv_Pan_rakeUp : MV y_Pan_rakeUp := ⟨gw_t 380 (by decide +kernel) (by decide +kernel), gw_s 36 (by decide +kernel) (by decide +kernel)⟩
def y_Pan_rain : MethodName := ⟨"BrinePans$Pans", "rain", "(I)V"⟩
abbrev rm_Pan_rain : Room := { frames := 2, cells := 0, slots := 0, locals := 42 }
theorem mw_Pan_rain : MW y_Pan_rain prog_5_method_21_code 3 none 1 := ⟨gw_t 330 (by decide +kernel) (by decide +kernel), gw_t 4 (by decide +kernel) (by decide +kernel), (by decide +kernel)⟩
theorem mv_Pan_rain : MV y_Pan_rain := ⟨gw_t 329 (by decide +kernel) (by decide +kernel), gw_s 29 (by decide +kernel) (by decide +kernel)⟩
def y_Mth_max : MethodName := ⟨"java/lang/Math", "max", "(II)I"⟩
abbrev rm_Mth_max : Room := { frames := 0, cells := 0, slots := 0, locals := 0 }
theorem mw_Mth_max : MW y_Mth_max prog_10_method_65_code 2 (some .int) 2 := ⟨gw_t 337 (by decide +kernel) (by decide +kernel), gw_t 8 (by decide +kernel) (by decide +kernel), (by decide +kernel)⟩
theorem ms_Mth_max : MS y_Mth_max := gw_t 336 (by decide +kernel) (by decide +kernel)
def y_Pan_shine : MethodName := ⟨"BrinePans$Pans", "shine", "(I)V"⟩
abbrev rm_Pan_shine : Room := { frames := 1, cells := 0, slots := 0, locals := 21 }
theorem mw_Pan_shine : MW y_Pan_shine prog_5_method_22_code 4 none 1 := ⟨gw_t 334 (by decide +kernel) (by decide +kernel), gw_t 4 (by decide +kernel) (by decide +kernel), (by decide +kernel)⟩
theorem mv_Pan_shine : MV y_Pan_shine := ⟨gw_t 333 (by decide +kernel) (by decide +kernel), gw_s 30 (by decide +kernel) (by decide +kernel)⟩
def y_Pan_passDay : MethodName := ⟨"BrinePans$Pans", "passDay", "(Z)V"⟩
abbrev rm_Pan_passDay : Room := { frames := 3, cells := 0, slots := 0, locals := 68 }
theorem mw_Pan_passDay : MW y_Pan_passDay prog_5_method_20_code 3 none 1 := ⟨gw_t 295 (by decide +kernel) (by decide +kernel), gw_t 4 (by decide +kernel) (by decide +kernel), (by decide +kernel)⟩
theorem mv_Pan_passDay : MV y_Pan_passDay := ⟨gw_t 294 (by decide +kernel) (by decide +kernel), gw_s 22 (by decide +kernel) (by decide +kernel)⟩
def y_Pan_passDays : MethodName := ⟨"BrinePans$Pans", "passDays", "(I)V"⟩
abbrev rm_Pan_passDays : Room := { frames := 4, cells := 0, slots := 0, locals := 90 }
theorem mw_Pan_passDays : MW y_Pan_passDays prog_5_method_23_code 3 none 1 := ⟨gw_t 398 (by decide +kernel) (by decide +kernel), gw_t 4 (by decide +kernel) (by decide +kernel), (by decide +kernel)⟩
theorem mv_Pan_passDays : MV y_Pan_passDays := ⟨gw_t 397 (by decide +kernel) (by decide +kernel), gw_s 38 (by decide +kernel) (by decide +kernel)⟩
def y_Pan_crustBehind : MethodName := ⟨"BrinePans$Pans", "crustBehind", "(I)I"⟩
abbrev rm_Pan_crustBehind : Room := { frames := 5, cells := 0, slots := 0, locals := 112 }
theorem mw_Pan_crustBehind : MW y_Pan_crustBehind prog_5_method_24_code 2 (some .int) 1 := ⟨gw_t 407 (by decide +kernel) (by decide +kernel), gw_t 4 (by decide +kernel) (by decide +kernel), (by decide +kernel)⟩
theorem mv_Pan_crustBehind : MV y_Pan_crustBehind := ⟨gw_t 406 (by decide +kernel) (by decide +kernel), gw_s 39 (by decide +kernel) (by decide +kernel)⟩
def y_Pan_isDone : MethodName := ⟨"BrinePans$Pans", "isDone", "(III)Z"⟩
abbrev rm_Pan_isDone : Room := { frames := 4, cells := 0, slots := 0, locals := 90 }
theorem mw_Pan_isDone : MW y_Pan_isDone prog_5_method_25_code 5 (some .boolean) 3 := ⟨gw_t 441 (by decide +kernel) (by decide +kernel), gw_t 4 (by decide +kernel) (by decide +kernel), (by decide +kernel)⟩
theorem mv_Pan_isDone : MV y_Pan_isDone := ⟨gw_t 440 (by decide +kernel) (by decide +kernel), gw_s 40 (by decide +kernel) (by decide +kernel)⟩
def y_Pan_befall : MethodName := ⟨"BrinePans$Pans", "befall", "(I)V"⟩
abbrev rm_Pan_befall : Room := { frames := 4, cells := 0, slots := 0, locals := 90 }
theorem mw_Pan_befall : MW y_Pan_befall prog_5_method_26_code 2 none 1 := ⟨gw_t 518 (by decide +kernel) (by decide +kernel), gw_t 4 (by decide +kernel) (by decide +kernel), (by decide +kernel)⟩
theorem mv_Pan_befall : MV y_Pan_befall := ⟨gw_t 517 (by decide +kernel) (by decide +kernel), gw_s 46 (by decide +kernel) (by decide +kernel)⟩
def y_Txt_init : MethodName := ⟨"BrinePans$Text", "<init>", "()V"⟩
def y_Txt_append : MethodName := ⟨"BrinePans$Text", "append", "(I)I"⟩
abbrev rm_Txt_append : Room := { frames := 0, cells := 0, slots := 0, locals := 0 }
theorem mw_Txt_append : MW y_Txt_append prog_6_method_2_code 2 (some .int) 1 := ⟨gw_t 172 (by decide +kernel) (by decide +kernel), gw_t 2 (by decide +kernel) (by decide +kernel), (by decide +kernel)⟩
theorem mv_Txt_append : MV y_Txt_append := ⟨gw_t 171 (by decide +kernel) (by decide +kernel), gw_s 0 (by decide +kernel) (by decide +kernel)⟩
def y_Txt_clear : MethodName := ⟨"BrinePans$Text", "clear", "()I"⟩
abbrev rm_Txt_clear : Room := { frames := 0, cells := 0, slots := 0, locals := 0 }
theorem mw_Txt_clear : MW y_Txt_clear prog_6_method_3_code 2 (some .int) 0 := ⟨gw_t 180 (by decide +kernel) (by decide +kernel), gw_t 2 (by decide +kernel) (by decide +kernel), (by decide +kernel)⟩
theorem mv_Txt_clear : MV y_Txt_clear := ⟨gw_t 179 (by decide +kernel) (by decide +kernel), gw_s 1 (by decide +kernel) (by decide +kernel)⟩
def y_Txt_stepIntoThing : MethodName := ⟨"BrinePans$Text", "stepIntoThing", "(I)I"⟩
abbrev rm_Txt_stepIntoThing : Room := { frames := 0, cells := 0, slots := 0, locals := 0 }
theorem mw_Txt_stepIntoThing : MW y_Txt_stepIntoThing prog_6_method_6_code 1 (some .int) 1 := ⟨gw_t 194 (by decide +kernel) (by decide +kernel), gw_t 2 (by decide +kernel) (by decide +kernel), (by decide +kernel)⟩
theorem ms_Txt_stepIntoThing : MS y_Txt_stepIntoThing := gw_t 193 (by decide +kernel) (by decide +kernel)
def y_Txt_stepBehind : MethodName := ⟨"BrinePans$Text", "stepBehind", "(II)I"⟩
abbrev rm_Txt_stepBehind : Room := { frames := 1, cells := 0, slots := 0, locals := 22 }
theorem mw_Txt_stepBehind : MW y_Txt_stepBehind prog_6_method_5_code 2 (some .int) 2 := ⟨gw_t 191 (by decide +kernel) (by decide +kernel), gw_t 2 (by decide +kernel) (by decide +kernel), (by decide +kernel)⟩
theorem ms_Txt_stepBehind : MS y_Txt_stepBehind := gw_t 190 (by decide +kernel) (by decide +kernel)
def y_Txt_firstFault : MethodName := ⟨"BrinePans$Text", "firstFault", "()I"⟩
abbrev rm_Txt_firstFault : Room := { frames := 2, cells := 0, slots := 0, locals := 43 }
theorem mw_Txt_firstFault : MW y_Txt_firstFault prog_6_method_4_code 5 (some .int) 0 := ⟨gw_t 188 (by decide +kernel) (by decide +kernel), gw_t 2 (by decide +kernel) (by decide +kernel), (by decide +kernel)⟩
theorem mv_Txt_firstFault : MV y_Txt_firstFault := ⟨gw_t 187 (by decide +kernel) (by decide +kernel), gw_s 2 (by decide +kernel) (by decide +kernel)⟩
def y_Txt_layOut : MethodName := ⟨"BrinePans$Text", "layOut", "(LBrinePans$Ground;LBrinePans$Pans;)V"⟩
abbrev rm_Txt_layOut : Room := { frames := 2, cells := 0, slots := 0, locals := 43 }
theorem mw_Txt_layOut : MW y_Txt_layOut prog_6_method_7_code 6 none 2 := ⟨gw_t 205 (by decide +kernel) (by decide +kernel), gw_t 2 (by decide +kernel) (by decide +kernel), (by decide +kernel)⟩
theorem mv_Txt_layOut : MV y_Txt_layOut := ⟨gw_t 204 (by decide +kernel) (by decide +kernel), gw_s 3 (by decide +kernel) (by decide +kernel)⟩
def y_Bri_init : MethodName := ⟨"BrinePans", "<init>", "()V"⟩
def y_Bri_write : MethodName := ⟨"BrinePans", "write", "(I)I"⟩
abbrev rm_Bri_write : Room := { frames := 1, cells := 0, slots := 0, locals := 21 }
theorem mw_Bri_write : MW y_Bri_write prog_1_method_2_code 2 (some .int) 1 := ⟨gw_t 168 (by decide +kernel) (by decide +kernel), gw_t 1 (by decide +kernel) (by decide +kernel), (by decide +kernel)⟩
theorem mv_Bri_write : MV y_Bri_write := ⟨gw_t 166 (by decide +kernel) (by decide +kernel), gw_t 167 (by decide +kernel) (by decide +kernel)⟩
def y_Bri_wipe : MethodName := ⟨"BrinePans", "wipe", "()I"⟩
abbrev rm_Bri_wipe : Room := { frames := 1, cells := 0, slots := 0, locals := 21 }
theorem mw_Bri_wipe : MW y_Bri_wipe prog_1_method_3_code 1 (some .int) 0 := ⟨gw_t 176 (by decide +kernel) (by decide +kernel), gw_t 1 (by decide +kernel) (by decide +kernel), (by decide +kernel)⟩
theorem mv_Bri_wipe : MV y_Bri_wipe := ⟨gw_t 174 (by decide +kernel) (by decide +kernel), gw_t 175 (by decide +kernel) (by decide +kernel)⟩
def y_Bri_fault : MethodName := ⟨"BrinePans", "fault", "()I"⟩
abbrev rm_Bri_fault : Room := { frames := 3, cells := 0, slots := 0, locals := 67 }
theorem mw_Bri_fault : MW y_Bri_fault prog_1_method_4_code 1 (some .int) 0 := ⟨gw_t 184 (by decide +kernel) (by decide +kernel), gw_t 1 (by decide +kernel) (by decide +kernel), (by decide +kernel)⟩
theorem mv_Bri_fault : MV y_Bri_fault := ⟨gw_t 182 (by decide +kernel) (by decide +kernel), gw_t 183 (by decide +kernel) (by decide +kernel)⟩
def y_Bri_marsh : MethodName := ⟨"BrinePans", "marsh", "()I"⟩
abbrev rm_Bri_marsh : Room := { frames := 3, cells := 0, slots := 0, locals := 68 }
theorem mw_Bri_marsh : MW y_Bri_marsh prog_1_method_5_code 2 (some .int) 0 := ⟨gw_t 201 (by decide +kernel) (by decide +kernel), gw_t 1 (by decide +kernel) (by decide +kernel), (by decide +kernel)⟩
theorem mv_Bri_marsh : MV y_Bri_marsh := ⟨gw_t 199 (by decide +kernel) (by decide +kernel), gw_t 200 (by decide +kernel) (by decide +kernel)⟩
def y_Bri_about : MethodName := ⟨"BrinePans", "about", "(I)I"⟩
abbrev rm_Bri_about : Room := { frames := 4, cells := 0, slots := 0, locals := 86 }
theorem mw_Bri_about : MW y_Bri_about prog_1_method_6_code 2 (some .int) 1 := ⟨gw_t 233 (by decide +kernel) (by decide +kernel), gw_t 1 (by decide +kernel) (by decide +kernel), (by decide +kernel)⟩
theorem mv_Bri_about : MV y_Bri_about := ⟨gw_t 231 (by decide +kernel) (by decide +kernel), gw_t 232 (by decide +kernel) (by decide +kernel)⟩
def y_Bri_pan : MethodName := ⟨"BrinePans", "pan", "(II)I"⟩
abbrev rm_Bri_pan : Room := { frames := 2, cells := 0, slots := 0, locals := 43 }
theorem mw_Bri_pan : MW y_Bri_pan prog_1_method_7_code 3 (some .int) 2 := ⟨gw_t 265 (by decide +kernel) (by decide +kernel), gw_t 1 (by decide +kernel) (by decide +kernel), (by decide +kernel)⟩
theorem mv_Bri_pan : MV y_Bri_pan := ⟨gw_t 263 (by decide +kernel) (by decide +kernel), gw_t 264 (by decide +kernel) (by decide +kernel)⟩
def y_Bri_fromNow : MethodName := ⟨"BrinePans", "fromNow", "()LBrinePans$Pans;"⟩
abbrev rm_Bri_fromNow : Room := { frames := 1, cells := 0, slots := 0, locals := 22 }
theorem mw_Bri_fromNow : MW y_Bri_fromNow prog_1_method_30_code 1 (some (.object "BrinePans$Pans")) 0 := ⟨gw_t 287 (by decide +kernel) (by decide +kernel), gw_t 1 (by decide +kernel) (by decide +kernel), (by decide +kernel)⟩
theorem mv_Bri_fromNow : MV y_Bri_fromNow := ⟨gw_t 286 (by decide +kernel) (by decide +kernel), gw_s 20 (by decide +kernel) (by decide +kernel)⟩
def y_Bri_settle : MethodName := ⟨"BrinePans", "settle", "(I)I"⟩
abbrev rm_Bri_settle : Room := { frames := 2, cells := 0, slots := 0, locals := 43 }
theorem mw_Bri_settle : MW y_Bri_settle prog_1_method_31_code 2 (some .int) 1 := ⟨gw_t 341 (by decide +kernel) (by decide +kernel), gw_t 1 (by decide +kernel) (by decide +kernel), (by decide +kernel)⟩
theorem mv_Bri_settle : MV y_Bri_settle := ⟨gw_t 340 (by decide +kernel) (by decide +kernel), gw_s 31 (by decide +kernel) (by decide +kernel)⟩
def y_Bri_day : MethodName := ⟨"BrinePans", "day", "()I"⟩
abbrev rm_Bri_day : Room := { frames := 4, cells := 0, slots := 0, locals := 90 }
theorem mw_Bri_day : MW y_Bri_day prog_1_method_8_code 2 (some .int) 0 := ⟨gw_t 283 (by decide +kernel) (by decide +kernel), gw_t 1 (by decide +kernel) (by decide +kernel), (by decide +kernel)⟩
theorem mv_Bri_day : MV y_Bri_day := ⟨gw_t 281 (by decide +kernel) (by decide +kernel), gw_t 282 (by decide +kernel) (by decide +kernel)⟩
def y_Bri_sea : MethodName := ⟨"BrinePans", "sea", "(I)I"⟩
abbrev rm_Bri_sea : Room := { frames := 3, cells := 0, slots := 0, locals := 65 }
theorem mw_Bri_sea : MW y_Bri_sea prog_1_method_9_code 2 (some .int) 1 := ⟨gw_t 351 (by decide +kernel) (by decide +kernel), gw_t 1 (by decide +kernel) (by decide +kernel), (by decide +kernel)⟩
theorem mv_Bri_sea : MV y_Bri_sea := ⟨gw_t 349 (by decide +kernel) (by decide +kernel), gw_t 350 (by decide +kernel) (by decide +kernel)⟩
def y_Bri_let : MethodName := ⟨"BrinePans", "let", "(II)I"⟩
abbrev rm_Bri_let : Room := { frames := 3, cells := 0, slots := 0, locals := 68 }
theorem mw_Bri_let : MW y_Bri_let prog_1_method_10_code 3 (some .int) 2 := ⟨gw_t 360 (by decide +kernel) (by decide +kernel), gw_t 1 (by decide +kernel) (by decide +kernel), (by decide +kernel)⟩
theorem mv_Bri_let : MV y_Bri_let := ⟨gw_t 358 (by decide +kernel) (by decide +kernel), gw_t 359 (by decide +kernel) (by decide +kernel)⟩
def y_Bri_turn : MethodName := ⟨"BrinePans", "turn", "(I)I"⟩
abbrev rm_Bri_turn : Room := { frames := 3, cells := 0, slots := 0, locals := 64 }
theorem mw_Bri_turn : MW y_Bri_turn prog_1_method_11_code 2 (some .int) 1 := ⟨gw_t 365 (by decide +kernel) (by decide +kernel), gw_t 1 (by decide +kernel) (by decide +kernel), (by decide +kernel)⟩
theorem mv_Bri_turn : MV y_Bri_turn := ⟨gw_t 363 (by decide +kernel) (by decide +kernel), gw_t 364 (by decide +kernel) (by decide +kernel)⟩
def y_Bri_rake : MethodName := ⟨"BrinePans", "rake", "(I)I"⟩
abbrev rm_Bri_rake : Room := { frames := 4, cells := 0, slots := 0, locals := 86 }
theorem mw_Bri_rake : MW y_Bri_rake prog_1_method_12_code 2 (some .int) 1 := ⟨gw_t 377 (by decide +kernel) (by decide +kernel), gw_t 1 (by decide +kernel) (by decide +kernel), (by decide +kernel)⟩
theorem mv_Bri_rake : MV y_Bri_rake := ⟨gw_t 375 (by decide +kernel) (by decide +kernel), gw_t 376 (by decide +kernel) (by decide +kernel)⟩
def y_Bri_undo : MethodName := ⟨"BrinePans", "undo", "()I"⟩
abbrev rm_Bri_undo : Room := { frames := 2, cells := 0, slots := 0, locals := 43 }
theorem mw_Bri_undo : MW y_Bri_undo prog_1_method_13_code 1 (some .int) 0 := ⟨gw_t 385 (by decide +kernel) (by decide +kernel), gw_t 1 (by decide +kernel) (by decide +kernel), (by decide +kernel)⟩
theorem mv_Bri_undo : MV y_Bri_undo := ⟨gw_t 383 (by decide +kernel) (by decide +kernel), gw_t 384 (by decide +kernel) (by decide +kernel)⟩
def y_Bri_later : MethodName := ⟨"BrinePans", "later", "(III)I"⟩
abbrev rm_Bri_later : Room := { frames := 5, cells := 0, slots := 0, locals := 112 }
theorem mw_Bri_later : MW y_Bri_later prog_1_method_14_code 5 (some .int) 3 := ⟨gw_t 393 (by decide +kernel) (by decide +kernel), gw_t 1 (by decide +kernel) (by decide +kernel), (by decide +kernel)⟩
theorem mv_Bri_later : MV y_Bri_later := ⟨gw_t 391 (by decide +kernel) (by decide +kernel), gw_t 392 (by decide +kernel) (by decide +kernel)⟩
def y_Bri_crust : MethodName := ⟨"BrinePans", "crust", "(I)I"⟩
abbrev rm_Bri_crust : Room := { frames := 6, cells := 0, slots := 0, locals := 133 }
theorem mw_Bri_crust : MW y_Bri_crust prog_1_method_15_code 2 (some .int) 1 := ⟨gw_t 403 (by decide +kernel) (by decide +kernel), gw_t 1 (by decide +kernel) (by decide +kernel), (by decide +kernel)⟩
theorem mv_Bri_crust : MV y_Bri_crust := ⟨gw_t 401 (by decide +kernel) (by decide +kernel), gw_t 402 (by decide +kernel) (by decide +kernel)⟩
def y_Bri_ripe : MethodName := ⟨"BrinePans", "ripe", "(I)I"⟩
abbrev rm_Bri_ripe : Room := { frames := 4, cells := 0, slots := 0, locals := 90 }
theorem mw_Bri_ripe : MW y_Bri_ripe prog_1_method_16_code 4 (some .int) 1 := ⟨gw_t 413 (by decide +kernel) (by decide +kernel), gw_t 1 (by decide +kernel) (by decide +kernel), (by decide +kernel)⟩
theorem mv_Bri_ripe : MV y_Bri_ripe := ⟨gw_t 411 (by decide +kernel) (by decide +kernel), gw_t 412 (by decide +kernel) (by decide +kernel)⟩
def y_Bri_best : MethodName := ⟨"BrinePans", "best", "(II)I"⟩
abbrev rm_Bri_best : Room := { frames := 6, cells := 0, slots := 0, locals := 133 }
theorem mw_Bri_best : MW y_Bri_best prog_1_method_17_code 9 (some .int) 2 := ⟨gw_t 418 (by decide +kernel) (by decide +kernel), gw_t 1 (by decide +kernel) (by decide +kernel), (by decide +kernel)⟩
theorem mv_Bri_best : MV y_Bri_best := ⟨gw_t 416 (by decide +kernel) (by decide +kernel), gw_t 417 (by decide +kernel) (by decide +kernel)⟩
def y_Int_bitCount : MethodName := ⟨"java/lang/Integer", "bitCount", "(I)I"⟩
abbrev rm_Int_bitCount : Room := { frames := 0, cells := 0, slots := 0, locals := 0 }
theorem mw_Int_bitCount : MW y_Int_bitCount prog_9_method_49_code 1 (some .int) 1 := ⟨gw_t 426 (by decide +kernel) (by decide +kernel), gw_t 9 (by decide +kernel) (by decide +kernel), (by decide +kernel)⟩
theorem ms_Int_bitCount : MS y_Int_bitCount := gw_t 425 (by decide +kernel) (by decide +kernel)
def y_Bri_gates : MethodName := ⟨"BrinePans", "gates", "(II)I"⟩
abbrev rm_Bri_gates : Room := { frames := 6, cells := 0, slots := 0, locals := 133 }
theorem mw_Bri_gates : MW y_Bri_gates prog_1_method_18_code 6 (some .int) 2 := ⟨gw_t 423 (by decide +kernel) (by decide +kernel), gw_t 1 (by decide +kernel) (by decide +kernel), (by decide +kernel)⟩
theorem mv_Bri_gates : MV y_Bri_gates := ⟨gw_t 421 (by decide +kernel) (by decide +kernel), gw_t 422 (by decide +kernel) (by decide +kernel)⟩
def y_Bri_judge : MethodName := ⟨"BrinePans", "judge", "(IJ)I"⟩
abbrev rm_Bri_judge : Room := { frames := 5, cells := 0, slots := 0, locals := 114 }
theorem mw_Bri_judge : MW y_Bri_judge prog_1_method_19_code 7 (some .int) 2 := ⟨gw_t 433 (by decide +kernel) (by decide +kernel), gw_t 1 (by decide +kernel) (by decide +kernel), (by decide +kernel)⟩
theorem mv_Bri_judge : MV y_Bri_judge := ⟨gw_t 431 (by decide +kernel) (by decide +kernel), gw_t 432 (by decide +kernel) (by decide +kernel)⟩
def y_Bri_commonMeasure : MethodName := ⟨"BrinePans", "commonMeasure", "(II)I"⟩
abbrev rm_Bri_commonMeasure : Room := { frames := 0, cells := 0, slots := 0, locals := 0 }
theorem mw_Bri_commonMeasure : MW y_Bri_commonMeasure prog_1_method_36_code 4 (some .int) 2 := ⟨gw_t 460 (by decide +kernel) (by decide +kernel), gw_t 1 (by decide +kernel) (by decide +kernel), (by decide +kernel)⟩
theorem ms_Bri_commonMeasure : MS y_Bri_commonMeasure := gw_t 459 (by decide +kernel) (by decide +kernel)
def y_Mth_abs : MethodName := ⟨"java/lang/Math", "abs", "(I)I"⟩
abbrev rm_Mth_abs : Room := { frames := 0, cells := 0, slots := 0, locals := 0 }
theorem mw_Mth_abs : MW y_Mth_abs prog_10_method_59_code 1 (some .int) 1 := ⟨gw_t 457 (by decide +kernel) (by decide +kernel), gw_t 8 (by decide +kernel) (by decide +kernel), (by decide +kernel)⟩
theorem ms_Mth_abs : MS y_Mth_abs := gw_t 456 (by decide +kernel) (by decide +kernel)
def y_Bri_told : MethodName := ⟨"BrinePans", "told", "(IIZ)I"⟩
abbrev rm_Bri_told : Room := { frames := 1, cells := 0, slots := 0, locals := 23 }
theorem mw_Bri_told : MW y_Bri_told prog_1_method_35_code 4 (some .int) 3 := ⟨gw_t 454 (by decide +kernel) (by decide +kernel), gw_t 1 (by decide +kernel) (by decide +kernel), (by decide +kernel)⟩
theorem ms_Bri_told : MS y_Bri_told := gw_t 453 (by decide +kernel) (by decide +kernel)
def y_Bri_share : MethodName := ⟨"BrinePans", "share", "(IZ)I"⟩
abbrev rm_Bri_share : Room := { frames := 6, cells := 0, slots := 0, locals := 133 }
theorem mw_Bri_share : MW y_Bri_share prog_1_method_20_code 8 (some .int) 2 := ⟨gw_t 448 (by decide +kernel) (by decide +kernel), gw_t 1 (by decide +kernel) (by decide +kernel), (by decide +kernel)⟩
theorem mv_Bri_share : MV y_Bri_share := ⟨gw_t 446 (by decide +kernel) (by decide +kernel), gw_t 447 (by decide +kernel) (by decide +kernel)⟩
def y_Bri_find : MethodName := ⟨"BrinePans", "find", "(III)I"⟩
abbrev rm_Bri_find : Room := { frames := 1, cells := 0, slots := 0, locals := 23 }
theorem mw_Bri_find : MW y_Bri_find prog_1_method_21_code 4 (some .int) 3 := ⟨gw_t 464 (by decide +kernel) (by decide +kernel), gw_t 1 (by decide +kernel) (by decide +kernel), (by decide +kernel)⟩
theorem mv_Bri_find : MV y_Bri_find := ⟨gw_t 462 (by decide +kernel) (by decide +kernel), gw_t 463 (by decide +kernel) (by decide +kernel)⟩
def y_Bri_forget : MethodName := ⟨"BrinePans", "forget", "()I"⟩
abbrev rm_Bri_forget : Room := { frames := 1, cells := 0, slots := 0, locals := 21 }
theorem mw_Bri_forget : MW y_Bri_forget prog_1_method_22_code 1 (some .int) 0 := ⟨gw_t 472 (by decide +kernel) (by decide +kernel), gw_t 1 (by decide +kernel) (by decide +kernel), (by decide +kernel)⟩
theorem mv_Bri_forget : MV y_Bri_forget := ⟨gw_t 470 (by decide +kernel) (by decide +kernel), gw_t 471 (by decide +kernel) (by decide +kernel)⟩
def y_Bri_salts : MethodName := ⟨"BrinePans", "salts", "(I)I"⟩
abbrev rm_Bri_salts : Room := { frames := 2, cells := 0, slots := 0, locals := 44 }
theorem mw_Bri_salts : MW y_Bri_salts prog_1_method_23_code 5 (some .int) 1 := ⟨gw_t 480 (by decide +kernel) (by decide +kernel), gw_t 1 (by decide +kernel) (by decide +kernel), (by decide +kernel)⟩
theorem mv_Bri_salts : MV y_Bri_salts := ⟨gw_t 478 (by decide +kernel) (by decide +kernel), gw_t 479 (by decide +kernel) (by decide +kernel)⟩
def y_Bri_isAtRest : MethodName := ⟨"BrinePans", "isAtRest", "(I)Z"⟩
abbrev rm_Bri_isAtRest : Room := { frames := 0, cells := 0, slots := 0, locals := 0 }
theorem mw_Bri_isAtRest : MW y_Bri_isAtRest prog_1_method_33_code 2 (some .boolean) 1 := ⟨gw_t 499 (by decide +kernel) (by decide +kernel), gw_t 1 (by decide +kernel) (by decide +kernel), (by decide +kernel)⟩
theorem mv_Bri_isAtRest : MV y_Bri_isAtRest := ⟨gw_t 498 (by decide +kernel) (by decide +kernel), gw_s 45 (by decide +kernel) (by decide +kernel)⟩
def y_Bri_weigh : MethodName := ⟨"BrinePans", "weigh", "(III)V"⟩
abbrev rm_Bri_weigh : Room := { frames := 5, cells := 0, slots := 0, locals := 112 }
theorem mw_Bri_weigh : MW y_Bri_weigh prog_1_method_32_code 5 none 3 := ⟨gw_t 494 (by decide +kernel) (by decide +kernel), gw_t 1 (by decide +kernel) (by decide +kernel), (by decide +kernel)⟩
theorem mv_Bri_weigh : MV y_Bri_weigh := ⟨gw_t 493 (by decide +kernel) (by decide +kernel), gw_s 44 (by decide +kernel) (by decide +kernel)⟩
def y_Bri_rests : MethodName := ⟨"BrinePans", "rests", "(III)I"⟩
abbrev rm_Bri_rests : Room := { frames := 6, cells := 0, slots := 0, locals := 136 }
theorem mw_Bri_rests : MW y_Bri_rests prog_1_method_24_code 7 (some .int) 3 := ⟨gw_t 489 (by decide +kernel) (by decide +kernel), gw_t 1 (by decide +kernel) (by decide +kernel), (by decide +kernel)⟩
theorem mv_Bri_rests : MV y_Bri_rests := ⟨gw_t 487 (by decide +kernel) (by decide +kernel), gw_t 488 (by decide +kernel) (by decide +kernel)⟩
def y_Bri_clouds : MethodName := ⟨"BrinePans", "clouds", "(IIIIZ)I"⟩
abbrev rm_Bri_clouds : Room := { frames := 4, cells := 0, slots := 0, locals := 90 }
theorem mw_Bri_clouds : MW y_Bri_clouds prog_1_method_25_code 13 (some .int) 5 := ⟨gw_t 503 (by decide +kernel) (by decide +kernel), gw_t 1 (by decide +kernel) (by decide +kernel), (by decide +kernel)⟩
theorem mv_Bri_clouds : MV y_Bri_clouds := ⟨gw_t 501 (by decide +kernel) (by decide +kernel), gw_t 502 (by decide +kernel) (by decide +kernel)⟩
def y_Bri_seed : MethodName := ⟨"BrinePans", "seed", "(J)J"⟩
abbrev rm_Bri_seed : Room := { frames := 0, cells := 0, slots := 0, locals := 0 }
theorem mw_Bri_seed : MW y_Bri_seed prog_1_method_26_code 5 (some .long) 1 := ⟨gw_t 507 (by decide +kernel) (by decide +kernel), gw_t 1 (by decide +kernel) (by decide +kernel), (by decide +kernel)⟩
theorem mv_Bri_seed : MV y_Bri_seed := ⟨gw_t 505 (by decide +kernel) (by decide +kernel), gw_t 506 (by decide +kernel) (by decide +kernel)⟩
def y_Bri_years : MethodName := ⟨"BrinePans", "years", "(I)I"⟩
abbrev rm_Bri_years : Room := { frames := 5, cells := 0, slots := 0, locals := 111 }
theorem mw_Bri_years : MW y_Bri_years prog_1_method_27_code 5 (some .int) 1 := ⟨gw_t 511 (by decide +kernel) (by decide +kernel), gw_t 1 (by decide +kernel) (by decide +kernel), (by decide +kernel)⟩
theorem mv_Bri_years : MV y_Bri_years := ⟨gw_t 509 (by decide +kernel) (by decide +kernel), gw_t 510 (by decide +kernel) (by decide +kernel)⟩
def y_Bri_keep : MethodName := ⟨"BrinePans", "keep", "(I)I"⟩
abbrev rm_Bri_keep : Room := { frames := 1, cells := 0, slots := 0, locals := 22 }
theorem mw_Bri_keep : MW y_Bri_keep prog_1_method_28_code 2 (some .int) 1 := ⟨gw_t 522 (by decide +kernel) (by decide +kernel), gw_t 1 (by decide +kernel) (by decide +kernel), (by decide +kernel)⟩
theorem mv_Bri_keep : MV y_Bri_keep := ⟨gw_t 520 (by decide +kernel) (by decide +kernel), gw_t 521 (by decide +kernel) (by decide +kernel)⟩
def y_Bri_again : MethodName := ⟨"BrinePans", "again", "(I)I"⟩
abbrev rm_Bri_again : Room := { frames := 1, cells := 0, slots := 0, locals := 22 }
theorem mw_Bri_again : MW y_Bri_again prog_1_method_29_code 2 (some .int) 1 := ⟨gw_t 526 (by decide +kernel) (by decide +kernel), gw_t 1 (by decide +kernel) (by decide +kernel), (by decide +kernel)⟩
theorem mv_Bri_again : MV y_Bri_again := ⟨gw_t 524 (by decide +kernel) (by decide +kernel), gw_t 525 (by decide +kernel) (by decide +kernel)⟩
def y_Mod_init : MethodName := ⟨"BrinePansModel", "<init>", "()V"⟩
def y_Mod_in : MethodName := ⟨"BrinePansModel", "in", "(JJJ)Z"⟩
abbrev rm_Mod_in : Room := { frames := 0, cells := 0, slots := 0, locals := 0 }
theorem mw_Mod_in : MW y_Mod_in prog_8_method_3_code 6 (some .boolean) 3 := ⟨gw_t 634 (by decide +kernel) (by decide +kernel), gw_t 7 (by decide +kernel) (by decide +kernel), (by decide +kernel)⟩
theorem ms_Mod_in : MS y_Mod_in := gw_t 633 (by decide +kernel) (by decide +kernel)
def y_Mod_has : MethodName := ⟨"BrinePansModel", "has", "(II)Z"⟩
abbrev rm_Mod_has : Room := { frames := 0, cells := 0, slots := 0, locals := 0 }
theorem mw_Mod_has : MW y_Mod_has prog_8_method_4_code 2 (some .boolean) 2 := ⟨gw_t 722 (by decide +kernel) (by decide +kernel), gw_t 7 (by decide +kernel) (by decide +kernel), (by decide +kernel)⟩
theorem ms_Mod_has : MS y_Mod_has := gw_t 721 (by decide +kernel) (by decide +kernel)
def y_Mod_many : MethodName := ⟨"BrinePansModel", "many", "(I)I"⟩
abbrev rm_Mod_many : Room := { frames := 0, cells := 0, slots := 0, locals := 0 }
theorem mw_Mod_many : MW y_Mod_many prog_8_method_5_code 3 (some .int) 1 := ⟨gw_t 804 (by decide +kernel) (by decide +kernel), gw_t 7 (by decide +kernel) (by decide +kernel), (by decide +kernel)⟩
theorem ms_Mod_many : MS y_Mod_many := gw_t 803 (by decide +kernel) (by decide +kernel)
def y_Mod_power : MethodName := ⟨"BrinePansModel", "power", "(II)I"⟩
abbrev rm_Mod_power : Room := { frames := 0, cells := 0, slots := 0, locals := 0 }
theorem mw_Mod_power : MW y_Mod_power prog_8_method_6_code 4 (some .int) 2 := ⟨gw_t 876 (by decide +kernel) (by decide +kernel), gw_t 7 (by decide +kernel) (by decide +kernel), (by decide +kernel)⟩
theorem ms_Mod_power : MS y_Mod_power := gw_t 875 (by decide +kernel) (by decide +kernel)
def y_Mod_noPan : MethodName := ⟨"BrinePansModel", "noPan", "(I)Z"⟩
abbrev rm_Mod_noPan : Room := { frames := 1, cells := 0, slots := 0, locals := 25 }
theorem mw_Mod_noPan : MW y_Mod_noPan prog_8_method_7_code 2 (some .boolean) 1 := ⟨gw_t 703 (by decide +kernel) (by decide +kernel), gw_t 7 (by decide +kernel) (by decide +kernel), (by decide +kernel)⟩
theorem mv_Mod_noPan : MV y_Mod_noPan := ⟨gw_t 702 (by decide +kernel) (by decide +kernel), gw_s 56 (by decide +kernel) (by decide +kernel)⟩
def y_Mod_noGate : MethodName := ⟨"BrinePansModel", "noGate", "(I)Z"⟩
abbrev rm_Mod_noGate : Room := { frames := 1, cells := 0, slots := 0, locals := 25 }
theorem mw_Mod_noGate : MW y_Mod_noGate prog_8_method_8_code 2 (some .boolean) 1 := ⟨gw_t 751 (by decide +kernel) (by decide +kernel), gw_t 7 (by decide +kernel) (by decide +kernel), (by decide +kernel)⟩
theorem mv_Mod_noGate : MV y_Mod_noGate := ⟨gw_t 750 (by decide +kernel) (by decide +kernel), gw_s 61 (by decide +kernel) (by decide +kernel)⟩
def y_Mod_write : MethodName := ⟨"BrinePansModel", "write", "(I)I"⟩
abbrev rm_Mod_write : Room := { frames := 1, cells := 0, slots := 0, locals := 25 }
theorem mw_Mod_write : MW y_Mod_write prog_8_method_9_code 2 (some .int) 1 := ⟨gw_t 630 (by decide +kernel) (by decide +kernel), gw_t 7 (by decide +kernel) (by decide +kernel), (by decide +kernel)⟩
theorem mv_Mod_write : MV y_Mod_write := ⟨gw_t 628 (by decide +kernel) (by decide +kernel), gw_t 629 (by decide +kernel) (by decide +kernel)⟩
def y_Mod_wipe : MethodName := ⟨"BrinePansModel", "wipe", "()I"⟩
abbrev rm_Mod_wipe : Room := { frames := 0, cells := 0, slots := 0, locals := 0 }
theorem mw_Mod_wipe : MW y_Mod_wipe prog_8_method_10_code 2 (some .int) 0 := ⟨gw_t 638 (by decide +kernel) (by decide +kernel), gw_t 7 (by decide +kernel) (by decide +kernel), (by decide +kernel)⟩
theorem mv_Mod_wipe : MV y_Mod_wipe := ⟨gw_t 636 (by decide +kernel) (by decide +kernel), gw_t 637 (by decide +kernel) (by decide +kernel)⟩
def y_Mod_figure : MethodName := ⟨"BrinePansModel", "figure", "(II)I"⟩
abbrev rm_Mod_figure : Room := { frames := 1, cells := 0, slots := 0, locals := 25 }
theorem mw_Mod_figure : MW y_Mod_figure prog_8_method_11_code 3 (some .int) 2 := ⟨gw_t 658 (by decide +kernel) (by decide +kernel), gw_t 7 (by decide +kernel) (by decide +kernel), (by decide +kernel)⟩
theorem mv_Mod_figure : MV y_Mod_figure := ⟨gw_t 657 (by decide +kernel) (by decide +kernel), gw_s 50 (by decide +kernel) (by decide +kernel)⟩
def y_Mod_readOnePan : MethodName := ⟨"BrinePansModel", "readOnePan", "()Z"⟩
abbrev rm_Mod_readOnePan : Room := { frames := 2, cells := 0, slots := 0, locals := 47 }
theorem mw_Mod_readOnePan : MW y_Mod_readOnePan prog_8_method_12_code 4 (some .boolean) 0 := ⟨gw_t 654 (by decide +kernel) (by decide +kernel), gw_t 7 (by decide +kernel) (by decide +kernel), (by decide +kernel)⟩
theorem mv_Mod_readOnePan : MV y_Mod_readOnePan := ⟨gw_t 653 (by decide +kernel) (by decide +kernel), gw_s 49 (by decide +kernel) (by decide +kernel)⟩
def y_Mod_readOneSky : MethodName := ⟨"BrinePansModel", "readOneSky", "(Z)Z"⟩
abbrev rm_Mod_readOneSky : Room := { frames := 2, cells := 0, slots := 0, locals := 47 }
theorem mw_Mod_readOneSky : MW y_Mod_readOneSky prog_8_method_13_code 3 (some .boolean) 1 := ⟨gw_t 662 (by decide +kernel) (by decide +kernel), gw_t 7 (by decide +kernel) (by decide +kernel), (by decide +kernel)⟩
theorem mv_Mod_readOneSky : MV y_Mod_readOneSky := ⟨gw_t 661 (by decide +kernel) (by decide +kernel), gw_s 51 (by decide +kernel) (by decide +kernel)⟩
def y_Mod_readThing : MethodName := ⟨"BrinePansModel", "readThing", "()Z"⟩
abbrev rm_Mod_readThing : Room := { frames := 3, cells := 0, slots := 0, locals := 70 }
theorem mw_Mod_readThing : MW y_Mod_readThing prog_8_method_14_code 2 (some .boolean) 0 := ⟨gw_t 650 (by decide +kernel) (by decide +kernel), gw_t 7 (by decide +kernel) (by decide +kernel), (by decide +kernel)⟩
theorem mv_Mod_readThing : MV y_Mod_readThing := ⟨gw_t 649 (by decide +kernel) (by decide +kernel), gw_s 48 (by decide +kernel) (by decide +kernel)⟩
def y_Mod_readMarsh : MethodName := ⟨"BrinePansModel", "readMarsh", "()I"⟩
abbrev rm_Mod_readMarsh : Room := { frames := 4, cells := 0, slots := 0, locals := 91 }
theorem mw_Mod_readMarsh : MW y_Mod_readMarsh prog_8_method_15_code 1 (some .int) 0 := ⟨gw_t 646 (by decide +kernel) (by decide +kernel), gw_t 7 (by decide +kernel) (by decide +kernel), (by decide +kernel)⟩
theorem mv_Mod_readMarsh : MV y_Mod_readMarsh := ⟨gw_t 645 (by decide +kernel) (by decide +kernel), gw_s 47 (by decide +kernel) (by decide +kernel)⟩
def y_Mod_fault : MethodName := ⟨"BrinePansModel", "fault", "()I"⟩
abbrev rm_Mod_fault : Room := { frames := 5, cells := 0, slots := 0, locals := 111 }
theorem mw_Mod_fault : MW y_Mod_fault prog_8_method_16_code 1 (some .int) 0 := ⟨gw_t 642 (by decide +kernel) (by decide +kernel), gw_t 7 (by decide +kernel) (by decide +kernel), (by decide +kernel)⟩
theorem mv_Mod_fault : MV y_Mod_fault := ⟨gw_t 640 (by decide +kernel) (by decide +kernel), gw_t 641 (by decide +kernel) (by decide +kernel)⟩
def y_Mod_marsh : MethodName := ⟨"BrinePansModel", "marsh", "()I"⟩
abbrev rm_Mod_marsh : Room := { frames := 5, cells := 0, slots := 0, locals := 111 }
theorem mw_Mod_marsh : MW y_Mod_marsh prog_8_method_17_code 2 (some .int) 0 := ⟨gw_t 666 (by decide +kernel) (by decide +kernel), gw_t 7 (by decide +kernel) (by decide +kernel), (by decide +kernel)⟩
theorem mv_Mod_marsh : MV y_Mod_marsh := ⟨gw_t 664 (by decide +kernel) (by decide +kernel), gw_t 665 (by decide +kernel) (by decide +kernel)⟩
def y_Mod_room : MethodName := ⟨"BrinePansModel", "room", "([II)I"⟩
abbrev rm_Mod_room : Room := { frames := 0, cells := 0, slots := 0, locals := 0 }
theorem mw_Mod_room : MW y_Mod_room prog_8_method_18_code 3 (some .int) 2 := ⟨gw_t 707 (by decide +kernel) (by decide +kernel), gw_t 7 (by decide +kernel) (by decide +kernel), (by decide +kernel)⟩
theorem mv_Mod_room : MV y_Mod_room := ⟨gw_t 706 (by decide +kernel) (by decide +kernel), gw_s 57 (by decide +kernel) (by decide +kernel)⟩
def y_Mod_brine : MethodName := ⟨"BrinePansModel", "brine", "([II)I"⟩
abbrev rm_Mod_brine : Room := { frames := 0, cells := 0, slots := 0, locals := 0 }
theorem mw_Mod_brine : MW y_Mod_brine prog_8_method_19_code 2 (some .int) 2 := ⟨gw_t 688 (by decide +kernel) (by decide +kernel), gw_t 7 (by decide +kernel) (by decide +kernel), (by decide +kernel)⟩
theorem ms_Mod_brine : MS y_Mod_brine := gw_t 687 (by decide +kernel) (by decide +kernel)
def y_Mod_crustOf : MethodName := ⟨"BrinePansModel", "crustOf", "([II)I"⟩
abbrev rm_Mod_crustOf : Room := { frames := 1, cells := 0, slots := 0, locals := 21 }
theorem mw_Mod_crustOf : MW y_Mod_crustOf prog_8_method_20_code 2 (some .int) 2 := ⟨gw_t 685 (by decide +kernel) (by decide +kernel), gw_t 7 (by decide +kernel) (by decide +kernel), (by decide +kernel)⟩
theorem ms_Mod_crustOf : MS y_Mod_crustOf := gw_t 684 (by decide +kernel) (by decide +kernel)
def y_Mod_crustOfAll : MethodName := ⟨"BrinePansModel", "crustOfAll", "([I)I"⟩
abbrev rm_Mod_crustOfAll : Room := { frames := 2, cells := 0, slots := 0, locals := 42 }
theorem mw_Mod_crustOfAll : MW y_Mod_crustOfAll prog_8_method_21_code 4 (some .int) 1 := ⟨gw_t 682 (by decide +kernel) (by decide +kernel), gw_t 7 (by decide +kernel) (by decide +kernel), (by decide +kernel)⟩
theorem mv_Mod_crustOfAll : MV y_Mod_crustOfAll := ⟨gw_t 681 (by decide +kernel) (by decide +kernel), gw_s 54 (by decide +kernel) (by decide +kernel)⟩
def y_Mod_flow : MethodName := ⟨"BrinePansModel", "flow", "([III)I"⟩
abbrev rm_Mod_flow : Room := { frames := 1, cells := 0, slots := 0, locals := 21 }
theorem mw_Mod_flow : MW y_Mod_flow prog_8_method_22_code 4 (some .int) 3 := ⟨gw_t 728 (by decide +kernel) (by decide +kernel), gw_t 7 (by decide +kernel) (by decide +kernel), (by decide +kernel)⟩
theorem ms_Mod_flow : MS y_Mod_flow := gw_t 727 (by decide +kernel) (by decide +kernel)
def y_Mod_salted : MethodName := ⟨"BrinePansModel", "salted", "([III)V"⟩
abbrev rm_Mod_salted : Room := { frames := 0, cells := 0, slots := 0, locals := 0 }
theorem mw_Mod_salted : MW y_Mod_salted prog_8_method_23_code 4 none 3 := ⟨gw_t 731 (by decide +kernel) (by decide +kernel), gw_t 7 (by decide +kernel) (by decide +kernel), (by decide +kernel)⟩
theorem ms_Mod_salted : MS y_Mod_salted := gw_t 730 (by decide +kernel) (by decide +kernel)
def y_Mod_goLet : MethodName := ⟨"BrinePansModel", "goLet", "([III)I"⟩
abbrev rm_Mod_goLet : Room := { frames := 2, cells := 0, slots := 0, locals := 44 }
theorem mw_Mod_goLet : MW y_Mod_goLet prog_8_method_24_code 4 (some .int) 3 := ⟨gw_t 725 (by decide +kernel) (by decide +kernel), gw_t 7 (by decide +kernel) (by decide +kernel), (by decide +kernel)⟩
theorem ms_Mod_goLet : MS y_Mod_goLet := gw_t 724 (by decide +kernel) (by decide +kernel)
def y_Mod_skyOf : MethodName := ⟨"BrinePansModel", "skyOf", "([I)I"⟩
abbrev rm_Mod_skyOf : Room := { frames := 0, cells := 0, slots := 0, locals := 0 }
theorem mw_Mod_skyOf : MW y_Mod_skyOf prog_8_method_25_code 2 (some .int) 1 := ⟨gw_t 674 (by decide +kernel) (by decide +kernel), gw_t 7 (by decide +kernel) (by decide +kernel), (by decide +kernel)⟩
theorem mv_Mod_skyOf : MV y_Mod_skyOf := ⟨gw_t 673 (by decide +kernel) (by decide +kernel), gw_s 52 (by decide +kernel) (by decide +kernel)⟩
def y_Mod_weather : MethodName := ⟨"BrinePansModel", "weather", "([III)V"⟩
abbrev rm_Mod_weather : Room := { frames := 1, cells := 0, slots := 0, locals := 22 }
theorem mw_Mod_weather : MW y_Mod_weather prog_8_method_26_code 5 none 3 := ⟨gw_t 735 (by decide +kernel) (by decide +kernel), gw_t 7 (by decide +kernel) (by decide +kernel), (by decide +kernel)⟩
theorem mv_Mod_weather : MV y_Mod_weather := ⟨gw_t 734 (by decide +kernel) (by decide +kernel), gw_s 60 (by decide +kernel) (by decide +kernel)⟩
def y_Mod_goDay : MethodName := ⟨"BrinePansModel", "goDay", "([IZ)V"⟩
abbrev rm_Mod_goDay : Room := { frames := 3, cells := 0, slots := 0, locals := 67 }
theorem mw_Mod_goDay : MW y_Mod_goDay prog_8_method_27_code 5 none 2 := ⟨gw_t 719 (by decide +kernel) (by decide +kernel), gw_t 7 (by decide +kernel) (by decide +kernel), (by decide +kernel)⟩
theorem mv_Mod_goDay : MV y_Mod_goDay := ⟨gw_t 718 (by decide +kernel) (by decide +kernel), gw_s 59 (by decide +kernel) (by decide +kernel)⟩
def y_Mod_goDays : MethodName := ⟨"BrinePansModel", "goDays", "([II)V"⟩
abbrev rm_Mod_goDays : Room := { frames := 4, cells := 0, slots := 0, locals := 91 }
theorem mw_Mod_goDays : MW y_Mod_goDays prog_8_method_28_code 4 none 2 := ⟨gw_t 780 (by decide +kernel) (by decide +kernel), gw_t 7 (by decide +kernel) (by decide +kernel), (by decide +kernel)⟩
theorem mv_Mod_goDays : MV y_Mod_goDays := ⟨gw_t 779 (by decide +kernel) (by decide +kernel), gw_s 63 (by decide +kernel) (by decide +kernel)⟩
def y_Mod_canRake : MethodName := ⟨"BrinePansModel", "canRake", "([II)Z"⟩
abbrev rm_Mod_canRake : Room := { frames := 2, cells := 0, slots := 0, locals := 42 }
theorem mw_Mod_canRake : MW y_Mod_canRake prog_8_method_29_code 2 (some .boolean) 2 := ⟨gw_t 695 (by decide +kernel) (by decide +kernel), gw_t 7 (by decide +kernel) (by decide +kernel), (by decide +kernel)⟩
theorem ms_Mod_canRake : MS y_Mod_canRake := gw_t 694 (by decide +kernel) (by decide +kernel)
def y_Mod_ripeOnes : MethodName := ⟨"BrinePansModel", "ripeOnes", "([I)I"⟩
abbrev rm_Mod_ripeOnes : Room := { frames := 3, cells := 0, slots := 0, locals := 63 }
theorem mw_Mod_ripeOnes : MW y_Mod_ripeOnes prog_8_method_30_code 4 (some .int) 1 := ⟨gw_t 692 (by decide +kernel) (by decide +kernel), gw_t 7 (by decide +kernel) (by decide +kernel), (by decide +kernel)⟩
theorem mv_Mod_ripeOnes : MV y_Mod_ripeOnes := ⟨gw_t 691 (by decide +kernel) (by decide +kernel), gw_s 55 (by decide +kernel) (by decide +kernel)⟩
def y_Mod_sumFrom : MethodName := ⟨"BrinePansModel", "sumFrom", "(I)I"⟩
abbrev rm_Mod_sumFrom : Room := { frames := 0, cells := 0, slots := 0, locals := 0 }
theorem mw_Mod_sumFrom : MW y_Mod_sumFrom prog_8_method_31_code 4 (some .int) 1 := ⟨gw_t 678 (by decide +kernel) (by decide +kernel), gw_t 7 (by decide +kernel) (by decide +kernel), (by decide +kernel)⟩
theorem mv_Mod_sumFrom : MV y_Mod_sumFrom := ⟨gw_t 677 (by decide +kernel) (by decide +kernel), gw_s 53 (by decide +kernel) (by decide +kernel)⟩
def y_Mod_about : MethodName := ⟨"BrinePansModel", "about", "(I)I"⟩
abbrev rm_Mod_about : Room := { frames := 4, cells := 0, slots := 0, locals := 86 }
theorem mw_Mod_about : MW y_Mod_about prog_8_method_32_code 2 (some .int) 1 := ⟨gw_t 670 (by decide +kernel) (by decide +kernel), gw_t 7 (by decide +kernel) (by decide +kernel), (by decide +kernel)⟩
theorem mv_Mod_about : MV y_Mod_about := ⟨gw_t 668 (by decide +kernel) (by decide +kernel), gw_t 669 (by decide +kernel) (by decide +kernel)⟩
def y_Mod_pan : MethodName := ⟨"BrinePansModel", "pan", "(II)I"⟩
abbrev rm_Mod_pan : Room := { frames := 2, cells := 0, slots := 0, locals := 46 }
theorem mw_Mod_pan : MW y_Mod_pan prog_8_method_33_code 3 (some .int) 2 := ⟨gw_t 699 (by decide +kernel) (by decide +kernel), gw_t 7 (by decide +kernel) (by decide +kernel), (by decide +kernel)⟩
theorem mv_Mod_pan : MV y_Mod_pan := ⟨gw_t 697 (by decide +kernel) (by decide +kernel), gw_t 698 (by decide +kernel) (by decide +kernel)⟩
def y_Mod_note : MethodName := ⟨"BrinePansModel", "note", "()V"⟩
abbrev rm_Mod_note : Room := { frames := 0, cells := 0, slots := 0, locals := 0 }
theorem mw_Mod_note : MW y_Mod_note prog_8_method_34_code 2 none 0 := ⟨gw_t 715 (by decide +kernel) (by decide +kernel), gw_t 7 (by decide +kernel) (by decide +kernel), (by decide +kernel)⟩
theorem mv_Mod_note : MV y_Mod_note := ⟨gw_t 714 (by decide +kernel) (by decide +kernel), gw_s 58 (by decide +kernel) (by decide +kernel)⟩
def y_Mod_day : MethodName := ⟨"BrinePansModel", "day", "()I"⟩
abbrev rm_Mod_day : Room := { frames := 4, cells := 0, slots := 0, locals := 91 }
theorem mw_Mod_day : MW y_Mod_day prog_8_method_35_code 1 (some .int) 0 := ⟨gw_t 711 (by decide +kernel) (by decide +kernel), gw_t 7 (by decide +kernel) (by decide +kernel), (by decide +kernel)⟩
theorem mv_Mod_day : MV y_Mod_day := ⟨gw_t 709 (by decide +kernel) (by decide +kernel), gw_t 710 (by decide +kernel) (by decide +kernel)⟩
def y_Mod_goSea : MethodName := ⟨"BrinePansModel", "goSea", "([II)V"⟩
abbrev rm_Mod_goSea : Room := { frames := 1, cells := 0, slots := 0, locals := 23 }
theorem mw_Mod_goSea : MW y_Mod_goSea prog_8_method_36_code 2 none 2 := ⟨gw_t 743 (by decide +kernel) (by decide +kernel), gw_t 7 (by decide +kernel) (by decide +kernel), (by decide +kernel)⟩
theorem ms_Mod_goSea : MS y_Mod_goSea := gw_t 742 (by decide +kernel) (by decide +kernel)
def y_Mod_sea : MethodName := ⟨"BrinePansModel", "sea", "(I)I"⟩
abbrev rm_Mod_sea : Room := { frames := 2, cells := 0, slots := 0, locals := 44 }
theorem mw_Mod_sea : MW y_Mod_sea prog_8_method_37_code 2 (some .int) 1 := ⟨gw_t 739 (by decide +kernel) (by decide +kernel), gw_t 7 (by decide +kernel) (by decide +kernel), (by decide +kernel)⟩
theorem mv_Mod_sea : MV y_Mod_sea := ⟨gw_t 737 (by decide +kernel) (by decide +kernel), gw_t 738 (by decide +kernel) (by decide +kernel)⟩
def y_Mod_let : MethodName := ⟨"BrinePansModel", "let", "(II)I"⟩
abbrev rm_Mod_let : Room := { frames := 3, cells := 0, slots := 0, locals := 67 }
theorem mw_Mod_let : MW y_Mod_let prog_8_method_38_code 3 (some .int) 2 := ⟨gw_t 747 (by decide +kernel) (by decide +kernel), gw_t 7 (by decide +kernel) (by decide +kernel), (by decide +kernel)⟩
theorem mv_Mod_let : MV y_Mod_let := ⟨gw_t 745 (by decide +kernel) (by decide +kernel), gw_t 746 (by decide +kernel) (by decide +kernel)⟩
def y_Mod_turn : MethodName := ⟨"BrinePansModel", "turn", "(I)I"⟩
abbrev rm_Mod_turn : Room := { frames := 2, cells := 0, slots := 0, locals := 46 }
theorem mw_Mod_turn : MW y_Mod_turn prog_8_method_39_code 2 (some .int) 1 := ⟨gw_t 755 (by decide +kernel) (by decide +kernel), gw_t 7 (by decide +kernel) (by decide +kernel), (by decide +kernel)⟩
theorem mv_Mod_turn : MV y_Mod_turn := ⟨gw_t 753 (by decide +kernel) (by decide +kernel), gw_t 754 (by decide +kernel) (by decide +kernel)⟩
def y_Mod_goRake : MethodName := ⟨"BrinePansModel", "goRake", "([II)I"⟩
abbrev rm_Mod_goRake : Room := { frames := 2, cells := 0, slots := 0, locals := 42 }
theorem mw_Mod_goRake : MW y_Mod_goRake prog_8_method_40_code 3 (some .int) 2 := ⟨gw_t 762 (by decide +kernel) (by decide +kernel), gw_t 7 (by decide +kernel) (by decide +kernel), (by decide +kernel)⟩
theorem ms_Mod_goRake : MS y_Mod_goRake := gw_t 761 (by decide +kernel) (by decide +kernel)
def y_Mod_rake : MethodName := ⟨"BrinePansModel", "rake", "(I)I"⟩
abbrev rm_Mod_rake : Room := { frames := 3, cells := 0, slots := 0, locals := 64 }
theorem mw_Mod_rake : MW y_Mod_rake prog_8_method_41_code 2 (some .int) 1 := ⟨gw_t 759 (by decide +kernel) (by decide +kernel), gw_t 7 (by decide +kernel) (by decide +kernel), (by decide +kernel)⟩
theorem mv_Mod_rake : MV y_Mod_rake := ⟨gw_t 757 (by decide +kernel) (by decide +kernel), gw_t 758 (by decide +kernel) (by decide +kernel)⟩
def y_Mod_undo : MethodName := ⟨"BrinePansModel", "undo", "()I"⟩
abbrev rm_Mod_undo : Room := { frames := 0, cells := 0, slots := 0, locals := 0 }
theorem mw_Mod_undo : MW y_Mod_undo prog_8_method_42_code 2 (some .int) 0 := ⟨gw_t 766 (by decide +kernel) (by decide +kernel), gw_t 7 (by decide +kernel) (by decide +kernel), (by decide +kernel)⟩
theorem mv_Mod_undo : MV y_Mod_undo := ⟨gw_t 764 (by decide +kernel) (by decide +kernel), gw_t 765 (by decide +kernel) (by decide +kernel)⟩
def y_Mod_begin : MethodName := ⟨"BrinePansModel", "begin", "()V"⟩
abbrev rm_Mod_begin : Room := { frames := 0, cells := 0, slots := 0, locals := 0 }
theorem mw_Mod_begin : MW y_Mod_begin prog_8_method_43_code 2 none 0 := ⟨gw_t 776 (by decide +kernel) (by decide +kernel), gw_t 7 (by decide +kernel) (by decide +kernel), (by decide +kernel)⟩
theorem mv_Mod_begin : MV y_Mod_begin := ⟨gw_t 775 (by decide +kernel) (by decide +kernel), gw_s 62 (by decide +kernel) (by decide +kernel)⟩
def y_Mod_later : MethodName := ⟨"BrinePansModel", "later", "(III)I"⟩
abbrev rm_Mod_later : Room := { frames := 5, cells := 0, slots := 0, locals := 114 }
theorem mw_Mod_later : MW y_Mod_later prog_8_method_44_code 4 (some .int) 3 := ⟨gw_t 770 (by decide +kernel) (by decide +kernel), gw_t 7 (by decide +kernel) (by decide +kernel), (by decide +kernel)⟩
theorem mv_Mod_later : MV y_Mod_later := ⟨gw_t 768 (by decide +kernel) (by decide +kernel), gw_t 769 (by decide +kernel) (by decide +kernel)⟩
def y_Mod_crust : MethodName := ⟨"BrinePansModel", "crust", "(I)I"⟩
abbrev rm_Mod_crust : Room := { frames := 5, cells := 0, slots := 0, locals := 114 }
theorem mw_Mod_crust : MW y_Mod_crust prog_8_method_45_code 2 (some .int) 1 := ⟨gw_t 784 (by decide +kernel) (by decide +kernel), gw_t 7 (by decide +kernel) (by decide +kernel), (by decide +kernel)⟩
theorem mv_Mod_crust : MV y_Mod_crust := ⟨gw_t 782 (by decide +kernel) (by decide +kernel), gw_t 783 (by decide +kernel) (by decide +kernel)⟩
def y_Mod_ripe : MethodName := ⟨"BrinePansModel", "ripe", "(I)I"⟩
abbrev rm_Mod_ripe : Room := { frames := 4, cells := 0, slots := 0, locals := 91 }
theorem mw_Mod_ripe : MW y_Mod_ripe prog_8_method_46_code 3 (some .int) 1 := ⟨gw_t 788 (by decide +kernel) (by decide +kernel), gw_t 7 (by decide +kernel) (by decide +kernel), (by decide +kernel)⟩
theorem mv_Mod_ripe : MV y_Mod_ripe := ⟨gw_t 786 (by decide +kernel) (by decide +kernel), gw_t 787 (by decide +kernel) (by decide +kernel)⟩
def y_Mod_findBest : MethodName := ⟨"BrinePansModel", "findBest", "(I)V"⟩
abbrev rm_Mod_findBest : Room := { frames := 5, cells := 0, slots := 0, locals := 114 }
theorem mw_Mod_findBest : MW y_Mod_findBest prog_8_method_47_code 5 none 1 := ⟨gw_t 796 (by decide +kernel) (by decide +kernel), gw_t 7 (by decide +kernel) (by decide +kernel), (by decide +kernel)⟩
theorem mv_Mod_findBest : MV y_Mod_findBest := ⟨gw_t 795 (by decide +kernel) (by decide +kernel), gw_s 64 (by decide +kernel) (by decide +kernel)⟩
def y_Mod_best : MethodName := ⟨"BrinePansModel", "best", "(II)I"⟩
abbrev rm_Mod_best : Room := { frames := 6, cells := 0, slots := 0, locals := 138 }
theorem mw_Mod_best : MW y_Mod_best prog_8_method_48_code 3 (some .int) 2 := ⟨gw_t 792 (by decide +kernel) (by decide +kernel), gw_t 7 (by decide +kernel) (by decide +kernel), (by decide +kernel)⟩
theorem mv_Mod_best : MV y_Mod_best := ⟨gw_t 790 (by decide +kernel) (by decide +kernel), gw_t 791 (by decide +kernel) (by decide +kernel)⟩
def y_Mod_gates : MethodName := ⟨"BrinePansModel", "gates", "(II)I"⟩
abbrev rm_Mod_gates : Room := { frames := 5, cells := 0, slots := 0, locals := 114 }
theorem mw_Mod_gates : MW y_Mod_gates prog_8_method_49_code 6 (some .int) 2 := ⟨gw_t 800 (by decide +kernel) (by decide +kernel), gw_t 7 (by decide +kernel) (by decide +kernel), (by decide +kernel)⟩
theorem mv_Mod_gates : MV y_Mod_gates := ⟨gw_t 798 (by decide +kernel) (by decide +kernel), gw_t 799 (by decide +kernel) (by decide +kernel)⟩
def y_Mod_longPower : MethodName := ⟨"BrinePansModel", "longPower", "(JI)J"⟩
abbrev rm_Mod_longPower : Room := { frames := 0, cells := 0, slots := 0, locals := 0 }
theorem mw_Mod_longPower : MW y_Mod_longPower prog_8_method_50_code 6 (some .long) 2 := ⟨gw_t 813 (by decide +kernel) (by decide +kernel), gw_t 7 (by decide +kernel) (by decide +kernel), (by decide +kernel)⟩
theorem ms_Mod_longPower : MS y_Mod_longPower := gw_t 812 (by decide +kernel) (by decide +kernel)
def y_Mod_seas : MethodName := ⟨"BrinePansModel", "seas", "(I)Z"⟩
abbrev rm_Mod_seas : Room := { frames := 2, cells := 0, slots := 0, locals := 44 }
theorem mw_Mod_seas : MW y_Mod_seas prog_8_method_51_code 3 (some .boolean) 1 := ⟨gw_t 821 (by decide +kernel) (by decide +kernel), gw_t 7 (by decide +kernel) (by decide +kernel), (by decide +kernel)⟩
theorem mv_Mod_seas : MV y_Mod_seas := ⟨gw_t 820 (by decide +kernel) (by decide +kernel), gw_s 66 (by decide +kernel) (by decide +kernel)⟩
def y_Mod_lets : MethodName := ⟨"BrinePansModel", "lets", "(II)Z"⟩
abbrev rm_Mod_lets : Room := { frames := 3, cells := 0, slots := 0, locals := 67 }
theorem mw_Mod_lets : MW y_Mod_lets prog_8_method_52_code 4 (some .boolean) 2 := ⟨gw_t 825 (by decide +kernel) (by decide +kernel), gw_t 7 (by decide +kernel) (by decide +kernel), (by decide +kernel)⟩
theorem mv_Mod_lets : MV y_Mod_lets := ⟨gw_t 824 (by decide +kernel) (by decide +kernel), gw_s 67 (by decide +kernel) (by decide +kernel)⟩
def y_Mod_turns : MethodName := ⟨"BrinePansModel", "turns", "(I)Z"⟩
abbrev rm_Mod_turns : Room := { frames := 2, cells := 0, slots := 0, locals := 46 }
theorem mw_Mod_turns : MW y_Mod_turns prog_8_method_53_code 3 (some .boolean) 1 := ⟨gw_t 829 (by decide +kernel) (by decide +kernel), gw_t 7 (by decide +kernel) (by decide +kernel), (by decide +kernel)⟩
theorem mv_Mod_turns : MV y_Mod_turns := ⟨gw_t 828 (by decide +kernel) (by decide +kernel), gw_s 68 (by decide +kernel) (by decide +kernel)⟩
def y_Mod_rakes : MethodName := ⟨"BrinePansModel", "rakes", "(I)Z"⟩
abbrev rm_Mod_rakes : Room := { frames := 3, cells := 0, slots := 0, locals := 64 }
theorem mw_Mod_rakes : MW y_Mod_rakes prog_8_method_54_code 3 (some .boolean) 1 := ⟨gw_t 833 (by decide +kernel) (by decide +kernel), gw_t 7 (by decide +kernel) (by decide +kernel), (by decide +kernel)⟩
theorem mv_Mod_rakes : MV y_Mod_rakes := ⟨gw_t 832 (by decide +kernel) (by decide +kernel), gw_s 69 (by decide +kernel) (by decide +kernel)⟩
def y_Mod_does : MethodName := ⟨"BrinePansModel", "does", "(I)Z"⟩
abbrev rm_Mod_does : Room := { frames := 4, cells := 0, slots := 0, locals := 91 }
theorem mw_Mod_does : MW y_Mod_does prog_8_method_55_code 5 (some .boolean) 1 := ⟨gw_t 817 (by decide +kernel) (by decide +kernel), gw_t 7 (by decide +kernel) (by decide +kernel), (by decide +kernel)⟩
theorem mv_Mod_does : MV y_Mod_does := ⟨gw_t 816 (by decide +kernel) (by decide +kernel), gw_s 65 (by decide +kernel) (by decide +kernel)⟩
def y_Mod_judge : MethodName := ⟨"BrinePansModel", "judge", "(IJ)I"⟩
abbrev rm_Mod_judge : Room := { frames := 5, cells := 0, slots := 0, locals := 115 }
theorem mw_Mod_judge : MW y_Mod_judge prog_8_method_56_code 5 (some .int) 2 := ⟨gw_t 808 (by decide +kernel) (by decide +kernel), gw_t 7 (by decide +kernel) (by decide +kernel), (by decide +kernel)⟩
theorem mv_Mod_judge : MV y_Mod_judge := ⟨gw_t 806 (by decide +kernel) (by decide +kernel), gw_t 807 (by decide +kernel) (by decide +kernel)⟩
def y_Mod_ways : MethodName := ⟨"BrinePansModel", "ways", "(I)I"⟩
abbrev rm_Mod_ways : Room := { frames := 0, cells := 0, slots := 0, locals := 0 }
theorem mw_Mod_ways : MW y_Mod_ways prog_8_method_57_code 3 (some .int) 1 := ⟨gw_t 840 (by decide +kernel) (by decide +kernel), gw_t 7 (by decide +kernel) (by decide +kernel), (by decide +kernel)⟩
theorem ms_Mod_ways : MS y_Mod_ways := gw_t 839 (by decide +kernel) (by decide +kernel)
def y_Mod_divisor : MethodName := ⟨"BrinePansModel", "divisor", "(II)I"⟩
abbrev rm_Mod_divisor : Room := { frames := 0, cells := 0, slots := 0, locals := 0 }
theorem mw_Mod_divisor : MW y_Mod_divisor prog_8_method_58_code 5 (some .int) 2 := ⟨gw_t 846 (by decide +kernel) (by decide +kernel), gw_t 7 (by decide +kernel) (by decide +kernel), (by decide +kernel)⟩
theorem ms_Mod_divisor : MS y_Mod_divisor := gw_t 845 (by decide +kernel) (by decide +kernel)
def y_Mod_fraction : MethodName := ⟨"BrinePansModel", "fraction", "(IIZ)I"⟩
abbrev rm_Mod_fraction : Room := { frames := 1, cells := 0, slots := 0, locals := 24 }
theorem mw_Mod_fraction : MW y_Mod_fraction prog_8_method_59_code 4 (some .int) 3 := ⟨gw_t 843 (by decide +kernel) (by decide +kernel), gw_t 7 (by decide +kernel) (by decide +kernel), (by decide +kernel)⟩
theorem ms_Mod_fraction : MS y_Mod_fraction := gw_t 842 (by decide +kernel) (by decide +kernel)
def y_Mod_share : MethodName := ⟨"BrinePansModel", "share", "(IZ)I"⟩
abbrev rm_Mod_share : Room := { frames := 5, cells := 0, slots := 0, locals := 114 }
theorem mw_Mod_share : MW y_Mod_share prog_8_method_60_code 6 (some .int) 2 := ⟨gw_t 837 (by decide +kernel) (by decide +kernel), gw_t 7 (by decide +kernel) (by decide +kernel), (by decide +kernel)⟩
theorem mv_Mod_share : MV y_Mod_share := ⟨gw_t 835 (by decide +kernel) (by decide +kernel), gw_t 836 (by decide +kernel) (by decide +kernel)⟩
def y_Mod_find : MethodName := ⟨"BrinePansModel", "find", "(III)I"⟩
abbrev rm_Mod_find : Room := { frames := 1, cells := 0, slots := 0, locals := 25 }
theorem mw_Mod_find : MW y_Mod_find prog_8_method_61_code 4 (some .int) 3 := ⟨gw_t 850 (by decide +kernel) (by decide +kernel), gw_t 7 (by decide +kernel) (by decide +kernel), (by decide +kernel)⟩
theorem mv_Mod_find : MV y_Mod_find := ⟨gw_t 848 (by decide +kernel) (by decide +kernel), gw_t 849 (by decide +kernel) (by decide +kernel)⟩
def y_Mod_forget : MethodName := ⟨"BrinePansModel", "forget", "()I"⟩
abbrev rm_Mod_forget : Room := { frames := 0, cells := 0, slots := 0, locals := 0 }
theorem mw_Mod_forget : MW y_Mod_forget prog_8_method_62_code 2 (some .int) 0 := ⟨gw_t 855 (by decide +kernel) (by decide +kernel), gw_t 7 (by decide +kernel) (by decide +kernel), (by decide +kernel)⟩
theorem mv_Mod_forget : MV y_Mod_forget := ⟨gw_t 853 (by decide +kernel) (by decide +kernel), gw_t 854 (by decide +kernel) (by decide +kernel)⟩
def y_Mod_salts : MethodName := ⟨"BrinePansModel", "salts", "(I)I"⟩
abbrev rm_Mod_salts : Room := { frames := 1, cells := 0, slots := 0, locals := 25 }
theorem mw_Mod_salts : MW y_Mod_salts prog_8_method_63_code 6 (some .int) 1 := ⟨gw_t 859 (by decide +kernel) (by decide +kernel), gw_t 7 (by decide +kernel) (by decide +kernel), (by decide +kernel)⟩
theorem mv_Mod_salts : MV y_Mod_salts := ⟨gw_t 857 (by decide +kernel) (by decide +kernel), gw_t 858 (by decide +kernel) (by decide +kernel)⟩
def y_Mod_lay : MethodName := ⟨"BrinePansModel", "lay", "(II)V"⟩
abbrev rm_Mod_lay : Room := { frames := 0, cells := 0, slots := 0, locals := 0 }
theorem mw_Mod_lay : MW y_Mod_lay prog_8_method_64_code 3 none 2 := ⟨gw_t 867 (by decide +kernel) (by decide +kernel), gw_t 7 (by decide +kernel) (by decide +kernel), (by decide +kernel)⟩
theorem mv_Mod_lay : MV y_Mod_lay := ⟨gw_t 866 (by decide +kernel) (by decide +kernel), gw_s 70 (by decide +kernel) (by decide +kernel)⟩
def y_Mod_rests : MethodName := ⟨"BrinePansModel", "rests", "(III)I"⟩
abbrev rm_Mod_rests : Room := { frames := 5, cells := 0, slots := 0, locals := 114 }
theorem mw_Mod_rests : MW y_Mod_rests prog_8_method_65_code 6 (some .int) 3 := ⟨gw_t 863 (by decide +kernel) (by decide +kernel), gw_t 7 (by decide +kernel) (by decide +kernel), (by decide +kernel)⟩
theorem mv_Mod_rests : MV y_Mod_rests := ⟨gw_t 861 (by decide +kernel) (by decide +kernel), gw_t 862 (by decide +kernel) (by decide +kernel)⟩
def y_Mod_clouds : MethodName := ⟨"BrinePansModel", "clouds", "(IIIIZ)I"⟩
abbrev rm_Mod_clouds : Room := { frames := 4, cells := 0, slots := 0, locals := 91 }
theorem mw_Mod_clouds : MW y_Mod_clouds prog_8_method_66_code 9 (some .int) 5 := ⟨gw_t 871 (by decide +kernel) (by decide +kernel), gw_t 7 (by decide +kernel) (by decide +kernel), (by decide +kernel)⟩
theorem mv_Mod_clouds : MV y_Mod_clouds := ⟨gw_t 869 (by decide +kernel) (by decide +kernel), gw_t 870 (by decide +kernel) (by decide +kernel)⟩
def y_Mod_seed : MethodName := ⟨"BrinePansModel", "seed", "(J)J"⟩
abbrev rm_Mod_seed : Room := { frames := 0, cells := 0, slots := 0, locals := 0 }
theorem mw_Mod_seed : MW y_Mod_seed prog_8_method_67_code 5 (some .long) 1 := ⟨gw_t 880 (by decide +kernel) (by decide +kernel), gw_t 7 (by decide +kernel) (by decide +kernel), (by decide +kernel)⟩
theorem mv_Mod_seed : MV y_Mod_seed := ⟨gw_t 878 (by decide +kernel) (by decide +kernel), gw_t 879 (by decide +kernel) (by decide +kernel)⟩
def y_Mod_years : MethodName := ⟨"BrinePansModel", "years", "(I)I"⟩
abbrev rm_Mod_years : Room := { frames := 5, cells := 0, slots := 0, locals := 115 }
theorem mw_Mod_years : MW y_Mod_years prog_8_method_68_code 5 (some .int) 1 := ⟨gw_t 884 (by decide +kernel) (by decide +kernel), gw_t 7 (by decide +kernel) (by decide +kernel), (by decide +kernel)⟩
theorem mv_Mod_years : MV y_Mod_years := ⟨gw_t 882 (by decide +kernel) (by decide +kernel), gw_t 883 (by decide +kernel) (by decide +kernel)⟩
def y_Mod_keep : MethodName := ⟨"BrinePansModel", "keep", "(I)I"⟩
abbrev rm_Mod_keep : Room := { frames := 1, cells := 0, slots := 0, locals := 25 }
theorem mw_Mod_keep : MW y_Mod_keep prog_8_method_69_code 3 (some .int) 1 := ⟨gw_t 891 (by decide +kernel) (by decide +kernel), gw_t 7 (by decide +kernel) (by decide +kernel), (by decide +kernel)⟩
theorem mv_Mod_keep : MV y_Mod_keep := ⟨gw_t 889 (by decide +kernel) (by decide +kernel), gw_t 890 (by decide +kernel) (by decide +kernel)⟩
def y_Mod_again : MethodName := ⟨"BrinePansModel", "again", "(I)I"⟩
abbrev rm_Mod_again : Room := { frames := 1, cells := 0, slots := 0, locals := 25 }
theorem mw_Mod_again : MW y_Mod_again prog_8_method_70_code 3 (some .int) 1 := ⟨gw_t 895 (by decide +kernel) (by decide +kernel), gw_t 7 (by decide +kernel) (by decide +kernel), (by decide +kernel)⟩
theorem mv_Mod_again : MV y_Mod_again := ⟨gw_t 893 (by decide +kernel) (by decide +kernel), gw_t 894 (by decide +kernel) (by decide +kernel)⟩
theorem ml_Bri_68 : Cond.methodLinkNest "BrinePans" 68 y_Txt_append "BrinePans" ∈ nw := nw_t 169 (by decide +kernel) (by decide +kernel)
theorem ml_Bri_72 : Cond.methodLinkNest "BrinePans" 72 y_Txt_clear "BrinePans" ∈ nw := nw_t 177 (by decide +kernel) (by decide +kernel)
theorem ml_Bri_76 : Cond.methodLinkNest "BrinePans" 76 y_Txt_firstFault "BrinePans" ∈ nw := nw_t 185 (by decide +kernel) (by decide +kernel)
theorem ml_Bri_79 : Cond.methodLinkNest "BrinePans" 79 y_Txt_layOut "BrinePans" ∈ nw := nw_t 202 (by decide +kernel) (by decide +kernel)
theorem ml_Bri_83 : Cond.methodLinkNest "BrinePans" 83 y_Act_clear "BrinePans" ∈ nw := nw_t 226 (by decide +kernel) (by decide +kernel)
theorem ml_Bri_95 : Cond.methodLinkNest "BrinePans" 95 y_Gro_skyOf "BrinePans" ∈ nw := nw_t 234 (by decide +kernel) (by decide +kernel)
theorem ml_Bri_107 : Cond.methodLinkNest "BrinePans" 107 y_Pan_sumOf "BrinePans" ∈ nw := nw_t 238 (by decide +kernel) (by decide +kernel)
theorem ml_Bri_114 : Cond.methodLinkNest "BrinePans" 114 y_Pan_crustOfAll "BrinePans" ∈ nw := nw_t 242 (by decide +kernel) (by decide +kernel)
theorem ml_Bri_117 : Cond.methodLinkNest "BrinePans" 117 y_Pan_rakeable "BrinePans" ∈ nw := nw_t 254 (by decide +kernel) (by decide +kernel)
theorem ml_Bri_127 : Cond.methodLinkNest "BrinePans" 127 y_Gro_hasPan "BrinePans" ∈ nw := nw_t 266 (by decide +kernel) (by decide +kernel)
theorem ml_Bri_134 : Cond.methodLinkNest "BrinePans" 134 y_Pan_brineOf "BrinePans" ∈ nw := nw_t 270 (by decide +kernel) (by decide +kernel)
theorem ml_Bri_137 : Cond.methodLinkNest "BrinePans" 137 y_Pan_crustOf "BrinePans" ∈ nw := nw_t 271 (by decide +kernel) (by decide +kernel)
theorem ml_Bri_140 : Cond.methodLinkNest "BrinePans" 140 y_Pan_roomOf "BrinePans" ∈ nw := nw_t 272 (by decide +kernel) (by decide +kernel)
theorem ml_Bri_143 : Cond.methodLink "BrinePans" 143 y_Bri_fromNow ∈ gw := gw_t 284 (by decide +kernel) (by decide +kernel)
theorem ml_Bri_147 : Cond.methodLinkNest "BrinePans" 147 y_Pan_passDay "BrinePans" ∈ nw := nw_t 292 (by decide +kernel) (by decide +kernel)
theorem ml_Bri_151 : Cond.methodLink "BrinePans" 151 y_Bri_settle ∈ gw := gw_t 338 (by decide +kernel) (by decide +kernel)
theorem ml_Bri_154 : Cond.methodLinkNest "BrinePans" 154 y_Pan_takeSea "BrinePans" ∈ nw := nw_t 352 (by decide +kernel) (by decide +kernel)
theorem ml_Bri_157 : Cond.methodLinkNest "BrinePans" 157 y_Pan_letOn "BrinePans" ∈ nw := nw_t 361 (by decide +kernel) (by decide +kernel)
theorem ml_Bri_161 : Cond.methodLinkNest "BrinePans" 161 y_Pan_turnGate "BrinePans" ∈ nw := nw_t 366 (by decide +kernel) (by decide +kernel)
theorem ml_Bri_164 : Cond.methodLinkNest "BrinePans" 164 y_Pan_rakeUp "BrinePans" ∈ nw := nw_t 378 (by decide +kernel) (by decide +kernel)
theorem ml_Bri_167 : Cond.methodLinkNest "BrinePans" 167 y_Act_takeBack "BrinePans" ∈ nw := nw_t 386 (by decide +kernel) (by decide +kernel)
theorem ml_Bri_171 : Cond.methodLink "BrinePans" 171 y_Bri_isFromTo ∈ gw := gw_t 394 (by decide +kernel) (by decide +kernel)
theorem ml_Bri_175 : Cond.methodLinkNest "BrinePans" 175 y_Pan_passDays "BrinePans" ∈ nw := nw_t 395 (by decide +kernel) (by decide +kernel)
theorem ml_Bri_179 : Cond.methodLinkNest "BrinePans" 179 y_Pan_crustBehind "BrinePans" ∈ nw := nw_t 404 (by decide +kernel) (by decide +kernel)
theorem ml_Bri_182 : Cond.methodLinkNest "BrinePans" 182 y_Pan_canRake "BrinePans" ∈ nw := nw_t 414 (by decide +kernel) (by decide +kernel)
theorem ml_Bri_185 : Cond.methodLinkNest "BrinePans" 185 y_Gro_gateCount "BrinePans" ∈ nw := nw_t 419 (by decide +kernel) (by decide +kernel)
theorem ml_Bri_188 : Cond.methodLink "BrinePans" 188 y_Int_bitCount ∈ gw := gw_t 424 (by decide +kernel) (by decide +kernel)
theorem ml_Bri_201 : Cond.methodLinkNest "BrinePans" 201 y_Pan_isDone "BrinePans" ∈ nw := nw_t 438 (by decide +kernel) (by decide +kernel)
theorem ml_Bri_204 : Cond.methodLinkNest "BrinePans" 204 y_Pan_emptyAllBut "BrinePans" ∈ nw := nw_t 449 (by decide +kernel) (by decide +kernel)
theorem ml_Bri_210 : Cond.methodLink "BrinePans" 210 y_Bri_told ∈ gw := gw_t 452 (by decide +kernel) (by decide +kernel)
theorem ml_Bri_214 : Cond.methodLinkNest "BrinePans" 214 y_Fin_add "BrinePans" ∈ nw := nw_t 465 (by decide +kernel) (by decide +kernel)
theorem ml_Bri_218 : Cond.methodLinkNest "BrinePans" 218 y_Fin_clear "BrinePans" ∈ nw := nw_t 473 (by decide +kernel) (by decide +kernel)
theorem ml_Bri_219 : Cond.methodLinkNest "BrinePans" 219 y_Fin_allow "BrinePans" ∈ nw := nw_t 481 (by decide +kernel) (by decide +kernel)
theorem ml_Bri_222 : Cond.methodLinkNest "BrinePans" 222 y_Gro_hasGate "BrinePans" ∈ nw := nw_t 490 (by decide +kernel) (by decide +kernel)
theorem ml_Bri_225 : Cond.methodLink "BrinePans" 225 y_Bri_weigh ∈ gw := gw_t 491 (by decide +kernel) (by decide +kernel)
theorem ml_Bri_229 : Cond.methodLink "BrinePans" 229 y_Bri_isAtRest ∈ gw := gw_t 496 (by decide +kernel) (by decide +kernel)
theorem ml_Bri_238 : Cond.methodLinkNest "BrinePans" 238 y_Pan_befall "BrinePans" ∈ nw := nw_t 515 (by decide +kernel) (by decide +kernel)
theorem ml_Bri_241 : Cond.methodLinkNest "BrinePans" 241 y_Pan_copy "BrinePans" ∈ nw := nw_t 288 (by decide +kernel) (by decide +kernel)
theorem ml_Bri_245 : Cond.methodLinkNest "BrinePans" 245 y_Act_add "BrinePans" ∈ nw := nw_t 342 (by decide +kernel) (by decide +kernel)
theorem ml_Bri_247 : Cond.methodLinkNest "BrinePans" 247 y_Pan_setGate "BrinePans" ∈ nw := nw_t 495 (by decide +kernel) (by decide +kernel)
theorem ml_Bri_251 : Cond.methodLink "BrinePans" 251 y_Mth_abs ∈ gw := gw_t 455 (by decide +kernel) (by decide +kernel)
theorem ml_Bri_256 : Cond.methodLink "BrinePans" 256 y_Bri_commonMeasure ∈ gw := gw_t 458 (by decide +kernel) (by decide +kernel)
theorem ml_Act_27 : Cond.methodLinkNest "BrinePans$Acts" 27 y_Pan_copy "BrinePans" ∈ nw := nw_t 346 (by decide +kernel) (by decide +kernel)
theorem ml_Act_31 : Cond.methodLink "BrinePans$Acts" 31 y_Mth_min ∈ gw := gw_t 347 (by decide +kernel) (by decide +kernel)
theorem ml_Fin_26 : Cond.methodLink "BrinePans$Finds" 26 y_Mth_min ∈ gw := gw_t 485 (by decide +kernel) (by decide +kernel)
theorem ml_Gro_25 : Cond.methodLink "BrinePans$Ground" 25 y_Gro_gateCount ∈ gw := gw_t 312 (by decide +kernel) (by decide +kernel)
theorem ml_Pan_32 : Cond.methodLink "BrinePans$Pans" 32 y_Pan_emptyAllBut ∈ gw := gw_t 214 (by decide +kernel) (by decide +kernel)
theorem ml_Pan_36 : Cond.methodLink "BrinePans$Pans" 36 y_Pan_brineOf ∈ gw := gw_t 250 (by decide +kernel) (by decide +kernel)
theorem ml_Pan_40 : Cond.methodLinkNest "BrinePans$Pans" 40 y_Gro_depthOf "BrinePans" ∈ nw := nw_t 276 (by decide +kernel) (by decide +kernel)
theorem ml_Pan_48 : Cond.methodLink "BrinePans$Pans" 48 y_Pan_crustOf ∈ gw := gw_t 246 (by decide +kernel) (by decide +kernel)
theorem ml_Pan_51 : Cond.methodLink "BrinePans$Pans" 51 y_Pan_canRake ∈ gw := gw_t 258 (by decide +kernel) (by decide +kernel)
theorem ml_Pan_55 : Cond.methodLink "BrinePans$Pans" 55 y_Pan_isOpen ∈ gw := gw_t 300 (by decide +kernel) (by decide +kernel)
theorem ml_Pan_58 : Cond.methodLink "BrinePans$Pans" 58 y_Mth_min ∈ gw := gw_t 323 (by decide +kernel) (by decide +kernel)
theorem ml_Pan_64 : Cond.methodLinkNest "BrinePans$Pans" 64 y_Gro_hasPan "BrinePans" ∈ nw := nw_t 356 (by decide +kernel) (by decide +kernel)
theorem ml_Pan_67 : Cond.methodLinkNest "BrinePans$Pans" 67 y_Bri_isFromTo "BrinePans" ∈ nw := nw_t 313 (by decide +kernel) (by decide +kernel)
theorem ml_Pan_71 : Cond.methodLink "BrinePans$Pans" 71 y_Pan_roomOf ∈ gw := gw_t 314 (by decide +kernel) (by decide +kernel)
theorem ml_Pan_74 : Cond.methodLink "BrinePans$Pans" 74 y_Pan_fill ∈ gw := gw_t 319 (by decide +kernel) (by decide +kernel)
theorem ml_Pan_78 : Cond.methodLinkNest "BrinePans$Pans" 78 y_Gro_hasGate "BrinePans" ∈ nw := nw_t 308 (by decide +kernel) (by decide +kernel)
theorem ml_Pan_81 : Cond.methodLink "BrinePans$Pans" 81 y_Pan_drain ∈ gw := gw_t 315 (by decide +kernel) (by decide +kernel)
theorem ml_Pan_84 : Cond.methodLink "BrinePans$Pans" 84 y_Pan_setGate ∈ gw := gw_t 370 (by decide +kernel) (by decide +kernel)
theorem ml_Pan_88 : Cond.methodLinkNest "BrinePans$Pans" 88 y_Gro_gateCount "BrinePans" ∈ nw := nw_t 296 (by decide +kernel) (by decide +kernel)
theorem ml_Pan_92 : Cond.methodLink "BrinePans$Pans" 92 y_Pan_letOn ∈ gw := gw_t 304 (by decide +kernel) (by decide +kernel)
theorem ml_Pan_98 : Cond.methodLinkNest "BrinePans$Pans" 98 y_Gro_skyOf "BrinePans" ∈ nw := nw_t 326 (by decide +kernel) (by decide +kernel)
theorem ml_Pan_101 : Cond.methodLink "BrinePans$Pans" 101 y_Pan_rain ∈ gw := gw_t 327 (by decide +kernel) (by decide +kernel)
theorem ml_Pan_104 : Cond.methodLink "BrinePans$Pans" 104 y_Pan_shine ∈ gw := gw_t 331 (by decide +kernel) (by decide +kernel)
theorem ml_Pan_107 : Cond.methodLink "BrinePans$Pans" 107 y_Mth_max ∈ gw := gw_t 335 (by decide +kernel) (by decide +kernel)
theorem ml_Pan_110 : Cond.methodLink "BrinePans$Pans" 110 y_Pan_passDay ∈ gw := gw_t 399 (by decide +kernel) (by decide +kernel)
theorem ml_Pan_114 : Cond.methodLink "BrinePans$Pans" 114 y_Pan_passDays ∈ gw := gw_t 408 (by decide +kernel) (by decide +kernel)
theorem ml_Pan_117 : Cond.methodLink "BrinePans$Pans" 117 y_Pan_crustOfAll ∈ gw := gw_t 409 (by decide +kernel) (by decide +kernel)
theorem ml_Pan_120 : Cond.methodLink "BrinePans$Pans" 120 y_Pan_takeSea ∈ gw := gw_t 442 (by decide +kernel) (by decide +kernel)
theorem ml_Pan_123 : Cond.methodLink "BrinePans$Pans" 123 y_Pan_turnGate ∈ gw := gw_t 443 (by decide +kernel) (by decide +kernel)
theorem ml_Pan_126 : Cond.methodLink "BrinePans$Pans" 126 y_Pan_rakeUp ∈ gw := gw_t 444 (by decide +kernel) (by decide +kernel)
theorem ml_Txt_19 : Cond.methodLink "BrinePans$Text" 19 y_Txt_stepBehind ∈ gw := gw_t 189 (by decide +kernel) (by decide +kernel)
theorem ml_Txt_23 : Cond.methodLink "BrinePans$Text" 23 y_Txt_stepIntoThing ∈ gw := gw_t 192 (by decide +kernel) (by decide +kernel)
theorem ml_Txt_27 : Cond.methodLinkNest "BrinePans$Text" 27 y_Bri_isFromTo "BrinePans" ∈ nw := nw_t 195 (by decide +kernel) (by decide +kernel)
theorem ml_Txt_31 : Cond.methodLinkNest "BrinePans$Text" 31 y_Gro_clear "BrinePans" ∈ nw := nw_t 206 (by decide +kernel) (by decide +kernel)
theorem ml_Txt_36 : Cond.methodLinkNest "BrinePans$Text" 36 y_Pan_clear "BrinePans" ∈ nw := nw_t 210 (by decide +kernel) (by decide +kernel)
theorem ml_Txt_39 : Cond.methodLinkNest "BrinePans$Text" 39 y_Gro_addPan "BrinePans" ∈ nw := nw_t 218 (by decide +kernel) (by decide +kernel)
theorem ml_Txt_52 : Cond.methodLinkNest "BrinePans$Text" 52 y_Gro_addSky "BrinePans" ∈ nw := nw_t 222 (by decide +kernel) (by decide +kernel)
theorem ml_Mod_63 : Cond.methodLink "BrinePansModel" 63 y_Mod_in ∈ gw := gw_t 632 (by decide +kernel) (by decide +kernel)
theorem ml_Mod_75 : Cond.methodLink "BrinePansModel" 75 y_Mod_figure ∈ gw := gw_t 655 (by decide +kernel) (by decide +kernel)
theorem ml_Mod_85 : Cond.methodLink "BrinePansModel" 85 y_Mod_readOnePan ∈ gw := gw_t 651 (by decide +kernel) (by decide +kernel)
theorem ml_Mod_89 : Cond.methodLink "BrinePansModel" 89 y_Mod_readOneSky ∈ gw := gw_t 659 (by decide +kernel) (by decide +kernel)
theorem ml_Mod_93 : Cond.methodLink "BrinePansModel" 93 y_Mod_readThing ∈ gw := gw_t 647 (by decide +kernel) (by decide +kernel)
theorem ml_Mod_96 : Cond.methodLink "BrinePansModel" 96 y_Mod_readMarsh ∈ gw := gw_t 643 (by decide +kernel) (by decide +kernel)
theorem ml_Mod_106 : Cond.methodLink "BrinePansModel" 106 y_Mod_brine ∈ gw := gw_t 686 (by decide +kernel) (by decide +kernel)
theorem ml_Mod_110 : Cond.methodLink "BrinePansModel" 110 y_Mod_crustOf ∈ gw := gw_t 683 (by decide +kernel) (by decide +kernel)
theorem ml_Mod_113 : Cond.methodLink "BrinePansModel" 113 y_Mod_flow ∈ gw := gw_t 726 (by decide +kernel) (by decide +kernel)
theorem ml_Mod_117 : Cond.methodLink "BrinePansModel" 117 y_Mod_salted ∈ gw := gw_t 729 (by decide +kernel) (by decide +kernel)
theorem ml_Mod_121 : Cond.methodLink "BrinePansModel" 121 y_Mod_room ∈ gw := gw_t 704 (by decide +kernel) (by decide +kernel)
theorem ml_Mod_124 : Cond.methodLink "BrinePansModel" 124 y_Mod_has ∈ gw := gw_t 720 (by decide +kernel) (by decide +kernel)
theorem ml_Mod_128 : Cond.methodLink "BrinePansModel" 128 y_Mod_goLet ∈ gw := gw_t 723 (by decide +kernel) (by decide +kernel)
theorem ml_Mod_131 : Cond.methodLink "BrinePansModel" 131 y_Mod_skyOf ∈ gw := gw_t 671 (by decide +kernel) (by decide +kernel)
theorem ml_Mod_135 : Cond.methodLink "BrinePansModel" 135 y_Mod_weather ∈ gw := gw_t 732 (by decide +kernel) (by decide +kernel)
theorem ml_Mod_138 : Cond.methodLink "BrinePansModel" 138 y_Mod_goDay ∈ gw := gw_t 716 (by decide +kernel) (by decide +kernel)
theorem ml_Mod_142 : Cond.methodLink "BrinePansModel" 142 y_Mod_canRake ∈ gw := gw_t 693 (by decide +kernel) (by decide +kernel)
theorem ml_Mod_146 : Cond.methodLink "BrinePansModel" 146 y_Mod_sumFrom ∈ gw := gw_t 675 (by decide +kernel) (by decide +kernel)
theorem ml_Mod_150 : Cond.methodLink "BrinePansModel" 150 y_Mod_crustOfAll ∈ gw := gw_t 679 (by decide +kernel) (by decide +kernel)
theorem ml_Mod_153 : Cond.methodLink "BrinePansModel" 153 y_Mod_ripeOnes ∈ gw := gw_t 689 (by decide +kernel) (by decide +kernel)
theorem ml_Mod_159 : Cond.methodLink "BrinePansModel" 159 y_Mod_noPan ∈ gw := gw_t 700 (by decide +kernel) (by decide +kernel)
theorem ml_Mod_163 : Cond.methodLink "BrinePansModel" 163 y_Mod_note ∈ gw := gw_t 712 (by decide +kernel) (by decide +kernel)
theorem ml_Mod_168 : Cond.methodLink "BrinePansModel" 168 y_Mod_goSea ∈ gw := gw_t 741 (by decide +kernel) (by decide +kernel)
theorem ml_Mod_172 : Cond.methodLink "BrinePansModel" 172 y_Mod_noGate ∈ gw := gw_t 748 (by decide +kernel) (by decide +kernel)
theorem ml_Mod_175 : Cond.methodLink "BrinePansModel" 175 y_Mod_goRake ∈ gw := gw_t 760 (by decide +kernel) (by decide +kernel)
theorem ml_Mod_182 : Cond.methodLink "BrinePansModel" 182 y_Mod_begin ∈ gw := gw_t 773 (by decide +kernel) (by decide +kernel)
theorem ml_Mod_185 : Cond.methodLink "BrinePansModel" 185 y_Mod_goDays ∈ gw := gw_t 777 (by decide +kernel) (by decide +kernel)
theorem ml_Mod_194 : Cond.methodLink "BrinePansModel" 194 y_Mod_findBest ∈ gw := gw_t 793 (by decide +kernel) (by decide +kernel)
theorem ml_Mod_200 : Cond.methodLink "BrinePansModel" 200 y_Mod_many ∈ gw := gw_t 802 (by decide +kernel) (by decide +kernel)
theorem ml_Mod_203 : Cond.methodLink "BrinePansModel" 203 y_Mod_seas ∈ gw := gw_t 818 (by decide +kernel) (by decide +kernel)
theorem ml_Mod_206 : Cond.methodLink "BrinePansModel" 206 y_Mod_lets ∈ gw := gw_t 822 (by decide +kernel) (by decide +kernel)
theorem ml_Mod_209 : Cond.methodLink "BrinePansModel" 209 y_Mod_turns ∈ gw := gw_t 826 (by decide +kernel) (by decide +kernel)
theorem ml_Mod_212 : Cond.methodLink "BrinePansModel" 212 y_Mod_rakes ∈ gw := gw_t 830 (by decide +kernel) (by decide +kernel)
theorem ml_Mod_219 : Cond.methodLink "BrinePansModel" 219 y_Mod_longPower ∈ gw := gw_t 811 (by decide +kernel) (by decide +kernel)
theorem ml_Mod_223 : Cond.methodLink "BrinePansModel" 223 y_Mod_does ∈ gw := gw_t 814 (by decide +kernel) (by decide +kernel)
theorem ml_Mod_226 : Cond.methodLink "BrinePansModel" 226 y_Mod_divisor ∈ gw := gw_t 844 (by decide +kernel) (by decide +kernel)
theorem ml_Mod_229 : Cond.methodLink "BrinePansModel" 229 y_Mod_ways ∈ gw := gw_t 838 (by decide +kernel) (by decide +kernel)
theorem ml_Mod_232 : Cond.methodLink "BrinePansModel" 232 y_Mod_fraction ∈ gw := gw_t 841 (by decide +kernel) (by decide +kernel)
theorem ml_Mod_244 : Cond.methodLink "BrinePansModel" 244 y_Mod_lay ∈ gw := gw_t 864 (by decide +kernel) (by decide +kernel)
theorem ml_Mod_258 : Cond.methodLink "BrinePansModel" 258 y_Mod_power ∈ gw := gw_t 874 (by decide +kernel) (by decide +kernel)
theorem uw_Act : ∀ w ∈ u_ws cAct tAct 3, w ∈ gw := by
  intro w hw
  obtain ⟨k, hk, rfl⟩ := List.mem_map.mp hw
  have hk2 : k < 3 := List.mem_range.mp hk
  rcases (show k = 0 ∨ k = 1 ∨ k = 2 by omega) with rfl | rfl | rfl
  · exact gw_t 103 (by decide +kernel) (by decide +kernel)
  · exact gw_t 105 (by decide +kernel) (by decide +kernel)
  · exact gw_t 107 (by decide +kernel) (by decide +kernel)
theorem ut_Act : ∀ k, k < 3 → parseFieldDescriptor (tAct k).2.2.1 = some (yAct k) := by decide +kernel
theorem un_Act : ∀ a, a < 3 → ∀ b, b < 3 → a ≠ b → (tAct a).2.1 ≠ (tAct b).2.1 := by decide +kernel
theorem uw_Fin : ∀ w ∈ u_ws cFin tFin 4, w ∈ gw := by
  intro w hw
  obtain ⟨k, hk, rfl⟩ := List.mem_map.mp hw
  have hk2 : k < 4 := List.mem_range.mp hk
  rcases (show k = 0 ∨ k = 1 ∨ k = 2 ∨ k = 3 by omega) with rfl | rfl | rfl | rfl
  · exact gw_t 121 (by decide +kernel) (by decide +kernel)
  · exact gw_t 123 (by decide +kernel) (by decide +kernel)
  · exact gw_t 125 (by decide +kernel) (by decide +kernel)
  · exact gw_t 127 (by decide +kernel) (by decide +kernel)
theorem ut_Fin : ∀ k, k < 4 → parseFieldDescriptor (tFin k).2.2.1 = some (yFin k) := by decide +kernel
theorem un_Fin : ∀ a, a < 4 → ∀ b, b < 4 → a ≠ b → (tFin a).2.1 ≠ (tFin b).2.1 := by decide +kernel
theorem uw_Gro : ∀ w ∈ u_ws cGro tGro 4, w ∈ gw := by
  intro w hw
  obtain ⟨k, hk, rfl⟩ := List.mem_map.mp hw
  have hk2 : k < 4 := List.mem_range.mp hk
  rcases (show k = 0 ∨ k = 1 ∨ k = 2 ∨ k = 3 by omega) with rfl | rfl | rfl | rfl
  · exact gw_t 49 (by decide +kernel) (by decide +kernel)
  · exact gw_t 51 (by decide +kernel) (by decide +kernel)
  · exact gw_t 53 (by decide +kernel) (by decide +kernel)
  · exact gw_t 55 (by decide +kernel) (by decide +kernel)
theorem ut_Gro : ∀ k, k < 4 → parseFieldDescriptor (tGro k).2.2.1 = some (yGro k) := by decide +kernel
theorem un_Gro : ∀ a, a < 4 → ∀ b, b < 4 → a ≠ b → (tGro a).2.1 ≠ (tGro b).2.1 := by decide +kernel
theorem uw_Pan : ∀ w ∈ u_ws cPan tPan 6, w ∈ gw := by
  intro w hw
  obtain ⟨k, hk, rfl⟩ := List.mem_map.mp hw
  have hk2 : k < 6 := List.mem_range.mp hk
  rcases (show k = 0 ∨ k = 1 ∨ k = 2 ∨ k = 3 ∨ k = 4 ∨ k = 5 by omega) with rfl | rfl | rfl | rfl | rfl | rfl
  · exact gw_t 77 (by decide +kernel) (by decide +kernel)
  · exact gw_t 79 (by decide +kernel) (by decide +kernel)
  · exact gw_t 81 (by decide +kernel) (by decide +kernel)
  · exact gw_t 83 (by decide +kernel) (by decide +kernel)
  · exact gw_t 85 (by decide +kernel) (by decide +kernel)
  · exact gw_t 87 (by decide +kernel) (by decide +kernel)
theorem ut_Pan : ∀ k, k < 6 → parseFieldDescriptor (tPan k).2.2.1 = some (yPan k) := by decide +kernel
theorem un_Pan : ∀ a, a < 6 → ∀ b, b < 6 → a ≠ b → (tPan a).2.1 ≠ (tPan b).2.1 := by decide +kernel
theorem uw_Txt : ∀ w ∈ u_ws cTxt tTxt 2, w ∈ gw := by
  intro w hw
  obtain ⟨k, hk, rfl⟩ := List.mem_map.mp hw
  have hk2 : k < 2 := List.mem_range.mp hk
  rcases (show k = 0 ∨ k = 1 by omega) with rfl | rfl
  · exact gw_t 27 (by decide +kernel) (by decide +kernel)
  · exact gw_t 29 (by decide +kernel) (by decide +kernel)
theorem ut_Txt : ∀ k, k < 2 → parseFieldDescriptor (tTxt k).2.2.1 = some (yTxt k) := by decide +kernel
theorem un_Txt : ∀ a, a < 2 → ∀ b, b < 2 → a ≠ b → (tTxt a).2.1 ≠ (tTxt b).2.1 := by decide +kernel
theorem uw_Bri : ∀ w ∈ u_ws cBri tBri 11, w ∈ gw := by
  intro w hw
  obtain ⟨k, hk, rfl⟩ := List.mem_map.mp hw
  have hk2 : k < 11 := List.mem_range.mp hk
  rcases (show k = 0 ∨ k = 1 ∨ k = 2 ∨ k = 3 ∨ k = 4 ∨ k = 5 ∨ k = 6 ∨ k = 7 ∨ k = 8 ∨ k = 9 ∨ k = 10 by omega) with rfl | rfl | rfl | rfl | rfl | rfl | rfl | rfl | rfl | rfl | rfl
  · exact gw_t 142 (by decide +kernel) (by decide +kernel)
  · exact gw_t 144 (by decide +kernel) (by decide +kernel)
  · exact gw_t 146 (by decide +kernel) (by decide +kernel)
  · exact gw_t 148 (by decide +kernel) (by decide +kernel)
  · exact gw_t 150 (by decide +kernel) (by decide +kernel)
  · exact gw_t 152 (by decide +kernel) (by decide +kernel)
  · exact gw_t 154 (by decide +kernel) (by decide +kernel)
  · exact gw_t 156 (by decide +kernel) (by decide +kernel)
  · exact gw_t 158 (by decide +kernel) (by decide +kernel)
  · exact gw_t 160 (by decide +kernel) (by decide +kernel)
  · exact gw_t 162 (by decide +kernel) (by decide +kernel)
theorem ut_Bri : ∀ k, k < 11 → parseFieldDescriptor (tBri k).2.2.1 = some (yBri k) := by decide +kernel
theorem un_Bri : ∀ a, a < 11 → ∀ b, b < 11 → a ≠ b → (tBri a).2.1 ≠ (tBri b).2.1 := by decide +kernel
theorem uw_Mod : ∀ w ∈ u_ws cMod tMod 31, w ∈ gw := by
  intro w hw
  obtain ⟨k, hk, rfl⟩ := List.mem_map.mp hw
  have hk2 : k < 31 := List.mem_range.mp hk
  rcases (show k = 0 ∨ k = 1 ∨ k = 2 ∨ k = 3 ∨ k = 4 ∨ k = 5 ∨ k = 6 ∨ k = 7 ∨ k = 8 ∨ k = 9 ∨ k = 10 ∨ k = 11 ∨ k = 12 ∨ k = 13 ∨ k = 14 ∨ k = 15 ∨ k = 16 ∨ k = 17 ∨ k = 18 ∨ k = 19 ∨ k = 20 ∨ k = 21 ∨ k = 22 ∨ k = 23 ∨ k = 24 ∨ k = 25 ∨ k = 26 ∨ k = 27 ∨ k = 28 ∨ k = 29 ∨ k = 30 by omega) with rfl | rfl | rfl | rfl | rfl | rfl | rfl | rfl | rfl | rfl | rfl | rfl | rfl | rfl | rfl | rfl | rfl | rfl | rfl | rfl | rfl | rfl | rfl | rfl | rfl | rfl | rfl | rfl | rfl | rfl | rfl
  · exact gw_t 564 (by decide +kernel) (by decide +kernel)
  · exact gw_t 566 (by decide +kernel) (by decide +kernel)
  · exact gw_t 568 (by decide +kernel) (by decide +kernel)
  · exact gw_t 570 (by decide +kernel) (by decide +kernel)
  · exact gw_t 572 (by decide +kernel) (by decide +kernel)
  · exact gw_t 574 (by decide +kernel) (by decide +kernel)
  · exact gw_t 576 (by decide +kernel) (by decide +kernel)
  · exact gw_t 578 (by decide +kernel) (by decide +kernel)
  · exact gw_t 580 (by decide +kernel) (by decide +kernel)
  · exact gw_t 582 (by decide +kernel) (by decide +kernel)
  · exact gw_t 584 (by decide +kernel) (by decide +kernel)
  · exact gw_t 586 (by decide +kernel) (by decide +kernel)
  · exact gw_t 588 (by decide +kernel) (by decide +kernel)
  · exact gw_t 590 (by decide +kernel) (by decide +kernel)
  · exact gw_t 592 (by decide +kernel) (by decide +kernel)
  · exact gw_t 594 (by decide +kernel) (by decide +kernel)
  · exact gw_t 596 (by decide +kernel) (by decide +kernel)
  · exact gw_t 598 (by decide +kernel) (by decide +kernel)
  · exact gw_t 600 (by decide +kernel) (by decide +kernel)
  · exact gw_t 602 (by decide +kernel) (by decide +kernel)
  · exact gw_t 604 (by decide +kernel) (by decide +kernel)
  · exact gw_t 606 (by decide +kernel) (by decide +kernel)
  · exact gw_t 608 (by decide +kernel) (by decide +kernel)
  · exact gw_t 610 (by decide +kernel) (by decide +kernel)
  · exact gw_t 612 (by decide +kernel) (by decide +kernel)
  · exact gw_t 614 (by decide +kernel) (by decide +kernel)
  · exact gw_t 616 (by decide +kernel) (by decide +kernel)
  · exact gw_t 618 (by decide +kernel) (by decide +kernel)
  · exact gw_t 620 (by decide +kernel) (by decide +kernel)
  · exact gw_t 622 (by decide +kernel) (by decide +kernel)
  · exact gw_t 624 (by decide +kernel) (by decide +kernel)
theorem ut_Mod : ∀ k, k < 31 → parseFieldDescriptor (tMod k).2.2.1 = some (yMod k) := by decide +kernel
theorem un_Mod : ∀ a, a < 31 → ∀ b, b < 31 → a ≠ b → (tMod a).2.1 ≠ (tMod b).2.1 := by decide +kernel
theorem fk_Bri_10 : FK "BrinePans" 10 5 0 := ⟨cBri, tBri, 11, yBri, rfl, uw_Bri, ut_Bri, un_Bri, by decide, rfl, Or.inl (gw_t 131 (by decide +kernel) (by decide +kernel))⟩
theorem fk_Bri_19 : FK "BrinePans" 19 5 1 := ⟨cBri, tBri, 11, yBri, rfl, uw_Bri, ut_Bri, un_Bri, by decide, rfl, Or.inl (gw_t 132 (by decide +kernel) (by decide +kernel))⟩
theorem fk_Bri_28 : FK "BrinePans" 28 5 2 := ⟨cBri, tBri, 11, yBri, rfl, uw_Bri, ut_Bri, un_Bri, by decide, rfl, Or.inl (gw_t 133 (by decide +kernel) (by decide +kernel))⟩
theorem fk_Bri_32 : FK "BrinePans" 32 5 3 := ⟨cBri, tBri, 11, yBri, rfl, uw_Bri, ut_Bri, un_Bri, by decide, rfl, Or.inl (gw_t 134 (by decide +kernel) (by decide +kernel))⟩
theorem fk_Bri_38 : FK "BrinePans" 38 5 4 := ⟨cBri, tBri, 11, yBri, rfl, uw_Bri, ut_Bri, un_Bri, by decide, rfl, Or.inl (gw_t 135 (by decide +kernel) (by decide +kernel))⟩
theorem fk_Bri_45 : FK "BrinePans" 45 5 5 := ⟨cBri, tBri, 11, yBri, rfl, uw_Bri, ut_Bri, un_Bri, by decide, rfl, Or.inl (gw_t 136 (by decide +kernel) (by decide +kernel))⟩
theorem fk_Bri_49 : FK "BrinePans" 49 5 6 := ⟨cBri, tBri, 11, yBri, rfl, uw_Bri, ut_Bri, un_Bri, by decide, rfl, Or.inl (gw_t 137 (by decide +kernel) (by decide +kernel))⟩
theorem fk_Bri_53 : FK "BrinePans" 53 5 7 := ⟨cBri, tBri, 11, yBri, rfl, uw_Bri, ut_Bri, un_Bri, by decide, rfl, Or.inl (gw_t 138 (by decide +kernel) (by decide +kernel))⟩
theorem fk_Bri_57 : FK "BrinePans" 57 5 8 := ⟨cBri, tBri, 11, yBri, rfl, uw_Bri, ut_Bri, un_Bri, by decide, rfl, Or.inl (gw_t 139 (by decide +kernel) (by decide +kernel))⟩
theorem fk_Bri_61 : FK "BrinePans" 61 5 9 := ⟨cBri, tBri, 11, yBri, rfl, uw_Bri, ut_Bri, un_Bri, by decide, rfl, Or.inl (gw_t 140 (by decide +kernel) (by decide +kernel))⟩
theorem fk_Bri_64 : FK "BrinePans" 64 5 10 := ⟨cBri, tBri, 11, yBri, rfl, uw_Bri, ut_Bri, un_Bri, by decide, rfl, Or.inl (gw_t 141 (by decide +kernel) (by decide +kernel))⟩
theorem fp_Bri_64 : FP "BrinePans" 64 5 10 .long := ⟨fk_Bri_64, fun q h => by cases h; exact ⟨rfl, (by decide +kernel)⟩⟩
theorem fk_Bri_85 : FK "BrinePans" 85 2 2 := ⟨cGro, tGro, 4, yGro, rfl, uw_Gro, ut_Gro, un_Gro, by decide, rfl, Or.inr ⟨"BrinePans", nw_t 44 (by decide +kernel) (by decide +kernel)⟩⟩
theorem fp_Bri_85 : FP "BrinePans" 85 2 2 .int := ⟨fk_Bri_85, fun q h => by cases h; exact ⟨rfl, (by decide +kernel)⟩⟩
theorem fk_Bri_89 : FK "BrinePans" 89 2 3 := ⟨cGro, tGro, 4, yGro, rfl, uw_Gro, ut_Gro, un_Gro, by decide, rfl, Or.inr ⟨"BrinePans", nw_t 48 (by decide +kernel) (by decide +kernel)⟩⟩
theorem fp_Bri_89 : FP "BrinePans" 89 2 3 .int := ⟨fk_Bri_89, fun q h => by cases h; exact ⟨rfl, (by decide +kernel)⟩⟩
theorem fk_Bri_92 : FK "BrinePans" 92 3 5 := ⟨cPan, tPan, 6, yPan, rfl, uw_Pan, ut_Pan, un_Pan, by decide, rfl, Or.inr ⟨"BrinePans", nw_t 76 (by decide +kernel) (by decide +kernel)⟩⟩
theorem fp_Bri_92 : FP "BrinePans" 92 3 5 .int := ⟨fk_Bri_92, fun q h => by cases h; exact ⟨rfl, (by decide +kernel)⟩⟩
theorem fk_Bri_98 : FK "BrinePans" 98 3 3 := ⟨cPan, tPan, 6, yPan, rfl, uw_Pan, ut_Pan, un_Pan, by decide, rfl, Or.inr ⟨"BrinePans", nw_t 72 (by decide +kernel) (by decide +kernel)⟩⟩
theorem fp_Bri_98 : FP "BrinePans" 98 3 3 .int := ⟨fk_Bri_98, fun q h => by cases h; exact ⟨rfl, (by decide +kernel)⟩⟩
theorem fk_Bri_101 : FK "BrinePans" 101 3 4 := ⟨cPan, tPan, 6, yPan, rfl, uw_Pan, ut_Pan, un_Pan, by decide, rfl, Or.inr ⟨"BrinePans", nw_t 74 (by decide +kernel) (by decide +kernel)⟩⟩
theorem fp_Bri_101 : FP "BrinePans" 101 3 4 .int := ⟨fk_Bri_101, fun q h => by cases h; exact ⟨rfl, (by decide +kernel)⟩⟩
theorem fk_Bri_104 : FK "BrinePans" 104 3 1 := ⟨cPan, tPan, 6, yPan, rfl, uw_Pan, ut_Pan, un_Pan, by decide, rfl, Or.inr ⟨"BrinePans", nw_t 66 (by decide +kernel) (by decide +kernel)⟩⟩
theorem fk_Bri_111 : FK "BrinePans" 111 3 2 := ⟨cPan, tPan, 6, yPan, rfl, uw_Pan, ut_Pan, un_Pan, by decide, rfl, Or.inr ⟨"BrinePans", nw_t 69 (by decide +kernel) (by decide +kernel)⟩⟩
theorem fk_Bri_120 : FK "BrinePans" 120 0 2 := ⟨cAct, tAct, 3, yAct, rfl, uw_Act, ut_Act, un_Act, by decide, rfl, Or.inr ⟨"BrinePans", nw_t 102 (by decide +kernel) (by decide +kernel)⟩⟩
theorem fp_Bri_120 : FP "BrinePans" 120 0 2 .int := ⟨fk_Bri_120, fun q h => by cases h; exact ⟨rfl, (by decide +kernel)⟩⟩
theorem fk_Bri_123 : FK "BrinePans" 123 1 3 := ⟨cFin, tFin, 4, yFin, rfl, uw_Fin, ut_Fin, un_Fin, by decide, rfl, Or.inr ⟨"BrinePans", nw_t 120 (by decide +kernel) (by decide +kernel)⟩⟩
theorem fp_Bri_123 : FP "BrinePans" 123 1 3 .int := ⟨fk_Bri_123, fun q h => by cases h; exact ⟨rfl, (by decide +kernel)⟩⟩
theorem fk_Bri_124 : FK "BrinePans" 124 4 1 := ⟨cTxt, tTxt, 2, yTxt, rfl, uw_Txt, ut_Txt, un_Txt, by decide, rfl, Or.inr ⟨"BrinePans", nw_t 26 (by decide +kernel) (by decide +kernel)⟩⟩
theorem fp_Bri_124 : FP "BrinePans" 124 4 1 .int := ⟨fk_Bri_124, fun q h => by cases h; exact ⟨rfl, (by decide +kernel)⟩⟩
theorem fk_Bri_131 : FK "BrinePans" 131 2 0 := ⟨cGro, tGro, 4, yGro, rfl, uw_Gro, ut_Gro, un_Gro, by decide, rfl, Or.inr ⟨"BrinePans", nw_t 40 (by decide +kernel) (by decide +kernel)⟩⟩
theorem fk_Act_11 : FK "BrinePans$Acts" 11 0 0 := ⟨cAct, tAct, 3, yAct, rfl, uw_Act, ut_Act, un_Act, by decide, rfl, Or.inl (gw_t 99 (by decide +kernel) (by decide +kernel))⟩
theorem fk_Act_17 : FK "BrinePans$Acts" 17 0 1 := ⟨cAct, tAct, 3, yAct, rfl, uw_Act, ut_Act, un_Act, by decide, rfl, Or.inl (gw_t 100 (by decide +kernel) (by decide +kernel))⟩
theorem fp_Act_17 : FP "BrinePans$Acts" 17 0 1 .int := ⟨fk_Act_17, fun q h => by cases h; exact ⟨rfl, (by decide +kernel)⟩⟩
theorem fk_Act_21 : FK "BrinePans$Acts" 21 0 2 := ⟨cAct, tAct, 3, yAct, rfl, uw_Act, ut_Act, un_Act, by decide, rfl, Or.inl (gw_t 101 (by decide +kernel) (by decide +kernel))⟩
theorem fp_Act_21 : FP "BrinePans$Acts" 21 0 2 .int := ⟨fk_Act_21, fun q h => by cases h; exact ⟨rfl, (by decide +kernel)⟩⟩
theorem fk_Fin_9 : FK "BrinePans$Finds" 9 1 0 := ⟨cFin, tFin, 4, yFin, rfl, uw_Fin, ut_Fin, un_Fin, by decide, rfl, Or.inl (gw_t 116 (by decide +kernel) (by decide +kernel))⟩
theorem fk_Fin_15 : FK "BrinePans$Finds" 15 1 1 := ⟨cFin, tFin, 4, yFin, rfl, uw_Fin, ut_Fin, un_Fin, by decide, rfl, Or.inl (gw_t 117 (by decide +kernel) (by decide +kernel))⟩
theorem fk_Fin_18 : FK "BrinePans$Finds" 18 1 2 := ⟨cFin, tFin, 4, yFin, rfl, uw_Fin, ut_Fin, un_Fin, by decide, rfl, Or.inl (gw_t 118 (by decide +kernel) (by decide +kernel))⟩
theorem fk_Fin_22 : FK "BrinePans$Finds" 22 1 3 := ⟨cFin, tFin, 4, yFin, rfl, uw_Fin, ut_Fin, un_Fin, by decide, rfl, Or.inl (gw_t 119 (by decide +kernel) (by decide +kernel))⟩
theorem fp_Fin_22 : FP "BrinePans$Finds" 22 1 3 .int := ⟨fk_Fin_22, fun q h => by cases h; exact ⟨rfl, (by decide +kernel)⟩⟩
theorem fk_Gro_9 : FK "BrinePans$Ground" 9 2 0 := ⟨cGro, tGro, 4, yGro, rfl, uw_Gro, ut_Gro, un_Gro, by decide, rfl, Or.inl (gw_t 39 (by decide +kernel) (by decide +kernel))⟩
theorem fk_Gro_15 : FK "BrinePans$Ground" 15 2 1 := ⟨cGro, tGro, 4, yGro, rfl, uw_Gro, ut_Gro, un_Gro, by decide, rfl, Or.inl (gw_t 42 (by decide +kernel) (by decide +kernel))⟩
theorem fk_Gro_18 : FK "BrinePans$Ground" 18 2 2 := ⟨cGro, tGro, 4, yGro, rfl, uw_Gro, ut_Gro, un_Gro, by decide, rfl, Or.inl (gw_t 43 (by decide +kernel) (by decide +kernel))⟩
theorem fp_Gro_18 : FP "BrinePans$Ground" 18 2 2 .int := ⟨fk_Gro_18, fun q h => by cases h; exact ⟨rfl, (by decide +kernel)⟩⟩
theorem fk_Gro_22 : FK "BrinePans$Ground" 22 2 3 := ⟨cGro, tGro, 4, yGro, rfl, uw_Gro, ut_Gro, un_Gro, by decide, rfl, Or.inl (gw_t 47 (by decide +kernel) (by decide +kernel))⟩
theorem fp_Gro_22 : FP "BrinePans$Ground" 22 2 3 .int := ⟨fk_Gro_22, fun q h => by cases h; exact ⟨rfl, (by decide +kernel)⟩⟩
theorem fk_Pan_9 : FK "BrinePans$Pans" 9 3 1 := ⟨cPan, tPan, 6, yPan, rfl, uw_Pan, ut_Pan, un_Pan, by decide, rfl, Or.inl (gw_t 65 (by decide +kernel) (by decide +kernel))⟩
theorem fk_Pan_15 : FK "BrinePans$Pans" 15 3 2 := ⟨cPan, tPan, 6, yPan, rfl, uw_Pan, ut_Pan, un_Pan, by decide, rfl, Or.inl (gw_t 68 (by decide +kernel) (by decide +kernel))⟩
theorem fk_Pan_18 : FK "BrinePans$Pans" 18 3 3 := ⟨cPan, tPan, 6, yPan, rfl, uw_Pan, ut_Pan, un_Pan, by decide, rfl, Or.inl (gw_t 71 (by decide +kernel) (by decide +kernel))⟩
theorem fp_Pan_18 : FP "BrinePans$Pans" 18 3 3 .int := ⟨fk_Pan_18, fun q h => by cases h; exact ⟨rfl, (by decide +kernel)⟩⟩
theorem fk_Pan_22 : FK "BrinePans$Pans" 22 3 4 := ⟨cPan, tPan, 6, yPan, rfl, uw_Pan, ut_Pan, un_Pan, by decide, rfl, Or.inl (gw_t 73 (by decide +kernel) (by decide +kernel))⟩
theorem fp_Pan_22 : FP "BrinePans$Pans" 22 3 4 .int := ⟨fk_Pan_22, fun q h => by cases h; exact ⟨rfl, (by decide +kernel)⟩⟩
theorem fk_Pan_25 : FK "BrinePans$Pans" 25 3 5 := ⟨cPan, tPan, 6, yPan, rfl, uw_Pan, ut_Pan, un_Pan, by decide, rfl, Or.inl (gw_t 75 (by decide +kernel) (by decide +kernel))⟩
theorem fp_Pan_25 : FP "BrinePans$Pans" 25 3 5 .int := ⟨fk_Pan_25, fun q h => by cases h; exact ⟨rfl, (by decide +kernel)⟩⟩
theorem fk_Pan_28 : FK "BrinePans$Pans" 28 3 0 := ⟨cPan, tPan, 6, yPan, rfl, uw_Pan, ut_Pan, un_Pan, by decide, rfl, Or.inl (gw_t 64 (by decide +kernel) (by decide +kernel))⟩
theorem fk_Pan_45 : FK "BrinePans$Pans" 45 2 2 := ⟨cGro, tGro, 4, yGro, rfl, uw_Gro, ut_Gro, un_Gro, by decide, rfl, Or.inr ⟨"BrinePans", nw_t 46 (by decide +kernel) (by decide +kernel)⟩⟩
theorem fp_Pan_45 : FP "BrinePans$Pans" 45 2 2 .int := ⟨fk_Pan_45, fun q h => by cases h; exact ⟨rfl, (by decide +kernel)⟩⟩
theorem fk_Pan_95 : FK "BrinePans$Pans" 95 2 0 := ⟨cGro, tGro, 4, yGro, rfl, uw_Gro, ut_Gro, un_Gro, by decide, rfl, Or.inr ⟨"BrinePans", nw_t 41 (by decide +kernel) (by decide +kernel)⟩⟩
theorem fk_Txt_9 : FK "BrinePans$Text" 9 4 0 := ⟨cTxt, tTxt, 2, yTxt, rfl, uw_Txt, ut_Txt, un_Txt, by decide, rfl, Or.inl (gw_t 24 (by decide +kernel) (by decide +kernel))⟩
theorem fk_Txt_15 : FK "BrinePans$Text" 15 4 1 := ⟨cTxt, tTxt, 2, yTxt, rfl, uw_Txt, ut_Txt, un_Txt, by decide, rfl, Or.inl (gw_t 25 (by decide +kernel) (by decide +kernel))⟩
theorem fp_Txt_15 : FP "BrinePans$Text" 15 4 1 .int := ⟨fk_Txt_15, fun q h => by cases h; exact ⟨rfl, (by decide +kernel)⟩⟩
theorem fk_Txt_43 : FK "BrinePans$Text" 43 3 1 := ⟨cPan, tPan, 6, yPan, rfl, uw_Pan, ut_Pan, un_Pan, by decide, rfl, Or.inr ⟨"BrinePans", nw_t 67 (by decide +kernel) (by decide +kernel)⟩⟩
theorem fk_Txt_46 : FK "BrinePans$Text" 46 2 2 := ⟨cGro, tGro, 4, yGro, rfl, uw_Gro, ut_Gro, un_Gro, by decide, rfl, Or.inr ⟨"BrinePans", nw_t 45 (by decide +kernel) (by decide +kernel)⟩⟩
theorem fp_Txt_46 : FP "BrinePans$Text" 46 2 2 .int := ⟨fk_Txt_46, fun q h => by cases h; exact ⟨rfl, (by decide +kernel)⟩⟩
theorem fk_Txt_49 : FK "BrinePans$Text" 49 3 2 := ⟨cPan, tPan, 6, yPan, rfl, uw_Pan, ut_Pan, un_Pan, by decide, rfl, Or.inr ⟨"BrinePans", nw_t 70 (by decide +kernel) (by decide +kernel)⟩⟩
theorem fk_Mod_7 : FK "BrinePansModel" 7 6 1 := ⟨cMod, tMod, 31, yMod, rfl, uw_Mod, ut_Mod, un_Mod, by decide, rfl, Or.inl (gw_t 534 (by decide +kernel) (by decide +kernel))⟩
theorem fk_Mod_13 : FK "BrinePansModel" 13 6 5 := ⟨cMod, tMod, 31, yMod, rfl, uw_Mod, ut_Mod, un_Mod, by decide, rfl, Or.inl (gw_t 538 (by decide +kernel) (by decide +kernel))⟩
theorem fk_Mod_16 : FK "BrinePansModel" 16 6 7 := ⟨cMod, tMod, 31, yMod, rfl, uw_Mod, ut_Mod, un_Mod, by decide, rfl, Or.inl (gw_t 540 (by decide +kernel) (by decide +kernel))⟩
theorem fk_Mod_19 : FK "BrinePansModel" 19 6 9 := ⟨cMod, tMod, 31, yMod, rfl, uw_Mod, ut_Mod, un_Mod, by decide, rfl, Or.inl (gw_t 542 (by decide +kernel) (by decide +kernel))⟩
theorem fk_Mod_22 : FK "BrinePansModel" 22 6 11 := ⟨cMod, tMod, 31, yMod, rfl, uw_Mod, ut_Mod, un_Mod, by decide, rfl, Or.inl (gw_t 544 (by decide +kernel) (by decide +kernel))⟩
theorem fk_Mod_25 : FK "BrinePansModel" 25 6 12 := ⟨cMod, tMod, 31, yMod, rfl, uw_Mod, ut_Mod, un_Mod, by decide, rfl, Or.inl (gw_t 545 (by decide +kernel) (by decide +kernel))⟩
theorem fk_Mod_28 : FK "BrinePansModel" 28 6 13 := ⟨cMod, tMod, 31, yMod, rfl, uw_Mod, ut_Mod, un_Mod, by decide, rfl, Or.inl (gw_t 546 (by decide +kernel) (by decide +kernel))⟩
theorem fk_Mod_31 : FK "BrinePansModel" 31 6 14 := ⟨cMod, tMod, 31, yMod, rfl, uw_Mod, ut_Mod, un_Mod, by decide, rfl, Or.inl (gw_t 547 (by decide +kernel) (by decide +kernel))⟩
theorem fk_Mod_34 : FK "BrinePansModel" 34 6 16 := ⟨cMod, tMod, 31, yMod, rfl, uw_Mod, ut_Mod, un_Mod, by decide, rfl, Or.inl (gw_t 549 (by decide +kernel) (by decide +kernel))⟩
theorem fk_Mod_37 : FK "BrinePansModel" 37 6 17 := ⟨cMod, tMod, 31, yMod, rfl, uw_Mod, ut_Mod, un_Mod, by decide, rfl, Or.inl (gw_t 550 (by decide +kernel) (by decide +kernel))⟩
theorem fk_Mod_41 : FK "BrinePansModel" 41 6 19 := ⟨cMod, tMod, 31, yMod, rfl, uw_Mod, ut_Mod, un_Mod, by decide, rfl, Or.inl (gw_t 552 (by decide +kernel) (by decide +kernel))⟩
theorem fk_Mod_44 : FK "BrinePansModel" 44 6 20 := ⟨cMod, tMod, 31, yMod, rfl, uw_Mod, ut_Mod, un_Mod, by decide, rfl, Or.inl (gw_t 553 (by decide +kernel) (by decide +kernel))⟩
theorem fk_Mod_47 : FK "BrinePansModel" 47 6 21 := ⟨cMod, tMod, 31, yMod, rfl, uw_Mod, ut_Mod, un_Mod, by decide, rfl, Or.inl (gw_t 554 (by decide +kernel) (by decide +kernel))⟩
theorem fk_Mod_50 : FK "BrinePansModel" 50 6 29 := ⟨cMod, tMod, 31, yMod, rfl, uw_Mod, ut_Mod, un_Mod, by decide, rfl, Or.inl (gw_t 562 (by decide +kernel) (by decide +kernel))⟩
theorem fk_Mod_53 : FK "BrinePansModel" 53 6 30 := ⟨cMod, tMod, 31, yMod, rfl, uw_Mod, ut_Mod, un_Mod, by decide, rfl, Or.inl (gw_t 563 (by decide +kernel) (by decide +kernel))⟩
theorem fk_Mod_56 : FK "BrinePansModel" 56 6 0 := ⟨cMod, tMod, 31, yMod, rfl, uw_Mod, ut_Mod, un_Mod, by decide, rfl, Or.inl (gw_t 533 (by decide +kernel) (by decide +kernel))⟩
theorem fp_Mod_56 : FP "BrinePansModel" 56 6 0 .int := ⟨fk_Mod_56, fun q h => by cases h; exact ⟨rfl, (by decide +kernel)⟩⟩
theorem fk_Mod_60 : FK "BrinePansModel" 60 6 4 := ⟨cMod, tMod, 31, yMod, rfl, uw_Mod, ut_Mod, un_Mod, by decide, rfl, Or.inl (gw_t 537 (by decide +kernel) (by decide +kernel))⟩
theorem fp_Mod_60 : FP "BrinePansModel" 60 6 4 .int := ⟨fk_Mod_60, fun q h => by cases h; exact ⟨rfl, (by decide +kernel)⟩⟩
theorem fk_Mod_69 : FK "BrinePansModel" 69 6 2 := ⟨cMod, tMod, 31, yMod, rfl, uw_Mod, ut_Mod, un_Mod, by decide, rfl, Or.inl (gw_t 535 (by decide +kernel) (by decide +kernel))⟩
theorem fp_Mod_69 : FP "BrinePansModel" 69 6 2 .int := ⟨fk_Mod_69, fun q h => by cases h; exact ⟨rfl, (by decide +kernel)⟩⟩
theorem fk_Mod_72 : FK "BrinePansModel" 72 6 3 := ⟨cMod, tMod, 31, yMod, rfl, uw_Mod, ut_Mod, un_Mod, by decide, rfl, Or.inl (gw_t 536 (by decide +kernel) (by decide +kernel))⟩
theorem fp_Mod_72 : FP "BrinePansModel" 72 6 3 .int := ⟨fk_Mod_72, fun q h => by cases h; exact ⟨rfl, (by decide +kernel)⟩⟩
theorem fk_Mod_79 : FK "BrinePansModel" 79 6 8 := ⟨cMod, tMod, 31, yMod, rfl, uw_Mod, ut_Mod, un_Mod, by decide, rfl, Or.inl (gw_t 541 (by decide +kernel) (by decide +kernel))⟩
theorem fp_Mod_79 : FP "BrinePansModel" 79 6 8 .int := ⟨fk_Mod_79, fun q h => by cases h; exact ⟨rfl, (by decide +kernel)⟩⟩
theorem fk_Mod_82 : FK "BrinePansModel" 82 6 10 := ⟨cMod, tMod, 31, yMod, rfl, uw_Mod, ut_Mod, un_Mod, by decide, rfl, Or.inl (gw_t 543 (by decide +kernel) (by decide +kernel))⟩
theorem fp_Mod_82 : FP "BrinePansModel" 82 6 10 .int := ⟨fk_Mod_82, fun q h => by cases h; exact ⟨rfl, (by decide +kernel)⟩⟩
theorem fk_Mod_100 : FK "BrinePansModel" 100 6 6 := ⟨cMod, tMod, 31, yMod, rfl, uw_Mod, ut_Mod, un_Mod, by decide, rfl, Or.inl (gw_t 539 (by decide +kernel) (by decide +kernel))⟩
theorem fp_Mod_100 : FP "BrinePansModel" 100 6 6 .int := ⟨fk_Mod_100, fun q h => by cases h; exact ⟨rfl, (by decide +kernel)⟩⟩
theorem fk_Mod_103 : FK "BrinePansModel" 103 6 15 := ⟨cMod, tMod, 31, yMod, rfl, uw_Mod, ut_Mod, un_Mod, by decide, rfl, Or.inl (gw_t 548 (by decide +kernel) (by decide +kernel))⟩
theorem fp_Mod_103 : FP "BrinePansModel" 103 6 15 .int := ⟨fk_Mod_103, fun q h => by cases h; exact ⟨rfl, (by decide +kernel)⟩⟩
theorem fk_Mod_156 : FK "BrinePansModel" 156 6 18 := ⟨cMod, tMod, 31, yMod, rfl, uw_Mod, ut_Mod, un_Mod, by decide, rfl, Or.inl (gw_t 551 (by decide +kernel) (by decide +kernel))⟩
theorem fp_Mod_156 : FP "BrinePansModel" 156 6 18 .int := ⟨fk_Mod_156, fun q h => by cases h; exact ⟨rfl, (by decide +kernel)⟩⟩
theorem fk_Mod_188 : FK "BrinePansModel" 188 6 23 := ⟨cMod, tMod, 31, yMod, rfl, uw_Mod, ut_Mod, un_Mod, by decide, rfl, Or.inl (gw_t 556 (by decide +kernel) (by decide +kernel))⟩
theorem fp_Mod_188 : FP "BrinePansModel" 188 6 23 .int := ⟨fk_Mod_188, fun q h => by cases h; exact ⟨rfl, (by decide +kernel)⟩⟩
theorem fk_Mod_191 : FK "BrinePansModel" 191 6 24 := ⟨cMod, tMod, 31, yMod, rfl, uw_Mod, ut_Mod, un_Mod, by decide, rfl, Or.inl (gw_t 557 (by decide +kernel) (by decide +kernel))⟩
theorem fp_Mod_191 : FP "BrinePansModel" 191 6 24 .int := ⟨fk_Mod_191, fun q h => by cases h; exact ⟨rfl, (by decide +kernel)⟩⟩
theorem fk_Mod_238 : FK "BrinePansModel" 238 6 25 := ⟨cMod, tMod, 31, yMod, rfl, uw_Mod, ut_Mod, un_Mod, by decide, rfl, Or.inl (gw_t 558 (by decide +kernel) (by decide +kernel))⟩
theorem fp_Mod_238 : FP "BrinePansModel" 238 6 25 .int := ⟨fk_Mod_238, fun q h => by cases h; exact ⟨rfl, (by decide +kernel)⟩⟩
theorem fk_Mod_241 : FK "BrinePansModel" 241 6 26 := ⟨cMod, tMod, 31, yMod, rfl, uw_Mod, ut_Mod, un_Mod, by decide, rfl, Or.inl (gw_t 559 (by decide +kernel) (by decide +kernel))⟩
theorem fp_Mod_241 : FP "BrinePansModel" 241 6 26 .int := ⟨fk_Mod_241, fun q h => by cases h; exact ⟨rfl, (by decide +kernel)⟩⟩
theorem fk_Mod_248 : FK "BrinePansModel" 248 6 27 := ⟨cMod, tMod, 31, yMod, rfl, uw_Mod, ut_Mod, un_Mod, by decide, rfl, Or.inl (gw_t 560 (by decide +kernel) (by decide +kernel))⟩
theorem fp_Mod_248 : FP "BrinePansModel" 248 6 27 .int := ⟨fk_Mod_248, fun q h => by cases h; exact ⟨rfl, (by decide +kernel)⟩⟩
theorem fk_Mod_251 : FK "BrinePansModel" 251 6 28 := ⟨cMod, tMod, 31, yMod, rfl, uw_Mod, ut_Mod, un_Mod, by decide, rfl, Or.inl (gw_t 561 (by decide +kernel) (by decide +kernel))⟩
theorem fp_Mod_251 : FP "BrinePansModel" 251 6 28 .int := ⟨fk_Mod_251, fun q h => by cases h; exact ⟨rfl, (by decide +kernel)⟩⟩
theorem fk_Mod_261 : FK "BrinePansModel" 261 6 22 := ⟨cMod, tMod, 31, yMod, rfl, uw_Mod, ut_Mod, un_Mod, by decide, rfl, Or.inl (gw_t 555 (by decide +kernel) (by decide +kernel))⟩
theorem fp_Mod_261 : FP "BrinePansModel" 261 6 22 .long := ⟨fk_Mod_261, fun q h => by cases h; exact ⟨rfl, (by decide +kernel)⟩⟩
theorem fv_0_0 {X : HI} {Y : HL} : FV X Y 0 5 0 (.ref 1) := ⟨by decide, by decide, rfl⟩
theorem fv_0_1 {X : HI} {Y : HL} : FV X Y 0 5 1 (.ref 3) := ⟨by decide, by decide, rfl⟩
theorem fv_0_2 {X : HI} {Y : HL} : FV X Y 0 5 2 (.ref 16) := ⟨by decide, by decide, rfl⟩
theorem fv_0_3 {X : HI} {Y : HL} : FV X Y 0 5 3 (.ref 19) := ⟨by decide, by decide, rfl⟩
theorem fv_0_4 {X : HI} {Y : HL} : FV X Y 0 5 4 (.ref 6) := ⟨by decide, by decide, rfl⟩
theorem fv_0_5 {X : HI} {Y : HL} : FV X Y 0 5 5 (.ref 8) := ⟨by decide, by decide, rfl⟩
theorem fv_0_6 {X : HI} {Y : HL} : FV X Y 0 5 6 (.ref 12) := ⟨by decide, by decide, rfl⟩
theorem fv_0_7 {X : HI} {Y : HL} : FV X Y 0 5 7 (.ref 13) := ⟨by decide, by decide, rfl⟩
theorem fv_0_8 {X : HI} {Y : HL} : FV X Y 0 5 8 (.ref 14) := ⟨by decide, by decide, rfl⟩
theorem fv_0_9 {X : HI} {Y : HL} : FV X Y 0 5 9 (.ref 15) := ⟨by decide, by decide, rfl⟩
theorem fv_0_10 {X : HI} {Y : HL} : FV X Y 0 5 10 (.long (Y 0)) := ⟨by decide, by decide, rfl⟩
theorem fwl_0 : FWL 0 5 10 := ⟨by decide, by decide, fun x y v => ⟨rfl, Nat.le_of_ble_eq_true rfl⟩⟩
theorem ob_0 : OB 0 "BrinePans" := ⟨by decide, 5, _, by decide, rfl, rfl⟩
theorem fv_1_0 {X : HI} {Y : HL} : FV X Y 1 4 0 (.ref 2) := ⟨by decide, by decide, rfl⟩
theorem fv_1_1 {X : HI} {Y : HL} : FV X Y 1 4 1 (.int (X 1 1)) := ⟨by decide, by decide, rfl⟩
theorem fw_1_1 : FW 1 4 1 := ⟨by decide, by decide, fun x y v => ⟨rfl, Nat.le_of_ble_eq_true rfl⟩⟩
theorem ob_1 : OB 1 "BrinePans$Text" := ⟨by decide, 4, _, by decide, rfl, rfl⟩
theorem fv_3_0 {X : HI} {Y : HL} : FV X Y 3 2 0 (.ref 4) := ⟨by decide, by decide, rfl⟩
theorem fv_3_1 {X : HI} {Y : HL} : FV X Y 3 2 1 (.ref 5) := ⟨by decide, by decide, rfl⟩
theorem fv_3_2 {X : HI} {Y : HL} : FV X Y 3 2 2 (.int (X 3 2)) := ⟨by decide, by decide, rfl⟩
theorem fw_3_2 : FW 3 2 2 := ⟨by decide, by decide, fun x y v => ⟨rfl, Nat.le_of_ble_eq_true rfl⟩⟩
theorem fv_3_3 {X : HI} {Y : HL} : FV X Y 3 2 3 (.int (X 3 3)) := ⟨by decide, by decide, rfl⟩
theorem fw_3_3 : FW 3 2 3 := ⟨by decide, by decide, fun x y v => ⟨rfl, Nat.le_of_ble_eq_true rfl⟩⟩
theorem ob_3 : OB 3 "BrinePans$Ground" := ⟨by decide, 2, _, by decide, rfl, rfl⟩
theorem fv_6_0 {X : HI} {Y : HL} : FV X Y 6 0 0 (.ref 7) := ⟨by decide, by decide, rfl⟩
theorem fv_6_1 {X : HI} {Y : HL} : FV X Y 6 0 1 (.int (X 6 1)) := ⟨by decide, by decide, rfl⟩
theorem fw_6_1 : FW 6 0 1 := ⟨by decide, by decide, fun x y v => ⟨rfl, Nat.le_of_ble_eq_true rfl⟩⟩
theorem fv_6_2 {X : HI} {Y : HL} : FV X Y 6 0 2 (.int (X 6 2)) := ⟨by decide, by decide, rfl⟩
theorem fw_6_2 : FW 6 0 2 := ⟨by decide, by decide, fun x y v => ⟨rfl, Nat.le_of_ble_eq_true rfl⟩⟩
theorem ob_6 : OB 6 "BrinePans$Acts" := ⟨by decide, 0, _, by decide, rfl, rfl⟩
theorem fv_8_0 {X : HI} {Y : HL} : FV X Y 8 1 0 (.ref 9) := ⟨by decide, by decide, rfl⟩
theorem fv_8_1 {X : HI} {Y : HL} : FV X Y 8 1 1 (.ref 10) := ⟨by decide, by decide, rfl⟩
theorem fv_8_2 {X : HI} {Y : HL} : FV X Y 8 1 2 (.ref 11) := ⟨by decide, by decide, rfl⟩
theorem fv_8_3 {X : HI} {Y : HL} : FV X Y 8 1 3 (.int (X 8 3)) := ⟨by decide, by decide, rfl⟩
theorem fw_8_3 : FW 8 1 3 := ⟨by decide, by decide, fun x y v => ⟨rfl, Nat.le_of_ble_eq_true rfl⟩⟩
theorem ob_8 : OB 8 "BrinePans$Finds" := ⟨by decide, 1, _, by decide, rfl, rfl⟩
theorem fv_70_0 {X : HI} {Y : HL} : FV X Y 70 6 0 (.int (X 70 0)) := ⟨by decide, by decide, rfl⟩
theorem fw_70_0 : FW 70 6 0 := ⟨by decide, by decide, fun x y v => ⟨rfl, Nat.le_of_ble_eq_true rfl⟩⟩
theorem fv_70_1 {X : HI} {Y : HL} : FV X Y 70 6 1 (.ref 71) := ⟨by decide, by decide, rfl⟩
theorem fv_70_2 {X : HI} {Y : HL} : FV X Y 70 6 2 (.int (X 70 2)) := ⟨by decide, by decide, rfl⟩
theorem fw_70_2 : FW 70 6 2 := ⟨by decide, by decide, fun x y v => ⟨rfl, Nat.le_of_ble_eq_true rfl⟩⟩
theorem fv_70_3 {X : HI} {Y : HL} : FV X Y 70 6 3 (.int (X 70 3)) := ⟨by decide, by decide, rfl⟩
theorem fw_70_3 : FW 70 6 3 := ⟨by decide, by decide, fun x y v => ⟨rfl, Nat.le_of_ble_eq_true rfl⟩⟩
theorem fv_70_4 {X : HI} {Y : HL} : FV X Y 70 6 4 (.int (X 70 4)) := ⟨by decide, by decide, rfl⟩
theorem fw_70_4 : FW 70 6 4 := ⟨by decide, by decide, fun x y v => ⟨rfl, Nat.le_of_ble_eq_true rfl⟩⟩
theorem fv_70_5 {X : HI} {Y : HL} : FV X Y 70 6 5 (.ref 72) := ⟨by decide, by decide, rfl⟩
theorem fv_70_6 {X : HI} {Y : HL} : FV X Y 70 6 6 (.int (X 70 6)) := ⟨by decide, by decide, rfl⟩
theorem fw_70_6 : FW 70 6 6 := ⟨by decide, by decide, fun x y v => ⟨rfl, Nat.le_of_ble_eq_true rfl⟩⟩
theorem fv_70_7 {X : HI} {Y : HL} : FV X Y 70 6 7 (.ref 73) := ⟨by decide, by decide, rfl⟩
theorem fv_70_8 {X : HI} {Y : HL} : FV X Y 70 6 8 (.int (X 70 8)) := ⟨by decide, by decide, rfl⟩
theorem fw_70_8 : FW 70 6 8 := ⟨by decide, by decide, fun x y v => ⟨rfl, Nat.le_of_ble_eq_true rfl⟩⟩
theorem fv_70_9 {X : HI} {Y : HL} : FV X Y 70 6 9 (.ref 74) := ⟨by decide, by decide, rfl⟩
theorem fv_70_10 {X : HI} {Y : HL} : FV X Y 70 6 10 (.int (X 70 10)) := ⟨by decide, by decide, rfl⟩
theorem fw_70_10 : FW 70 6 10 := ⟨by decide, by decide, fun x y v => ⟨rfl, Nat.le_of_ble_eq_true rfl⟩⟩
theorem fv_70_11 {X : HI} {Y : HL} : FV X Y 70 6 11 (.ref 75) := ⟨by decide, by decide, rfl⟩
theorem fv_70_12 {X : HI} {Y : HL} : FV X Y 70 6 12 (.ref 76) := ⟨by decide, by decide, rfl⟩
theorem fv_70_13 {X : HI} {Y : HL} : FV X Y 70 6 13 (.ref 77) := ⟨by decide, by decide, rfl⟩
theorem fv_70_14 {X : HI} {Y : HL} : FV X Y 70 6 14 (.ref 78) := ⟨by decide, by decide, rfl⟩
theorem fv_70_15 {X : HI} {Y : HL} : FV X Y 70 6 15 (.int (X 70 15)) := ⟨by decide, by decide, rfl⟩
theorem fw_70_15 : FW 70 6 15 := ⟨by decide, by decide, fun x y v => ⟨rfl, Nat.le_of_ble_eq_true rfl⟩⟩
theorem fv_70_16 {X : HI} {Y : HL} : FV X Y 70 6 16 (.ref 79) := ⟨by decide, by decide, rfl⟩
theorem fv_70_17 {X : HI} {Y : HL} : FV X Y 70 6 17 (.ref 80) := ⟨by decide, by decide, rfl⟩
theorem fv_70_18 {X : HI} {Y : HL} : FV X Y 70 6 18 (.int (X 70 18)) := ⟨by decide, by decide, rfl⟩
theorem fw_70_18 : FW 70 6 18 := ⟨by decide, by decide, fun x y v => ⟨rfl, Nat.le_of_ble_eq_true rfl⟩⟩
theorem fv_70_19 {X : HI} {Y : HL} : FV X Y 70 6 19 (.ref 81) := ⟨by decide, by decide, rfl⟩
theorem fv_70_20 {X : HI} {Y : HL} : FV X Y 70 6 20 (.ref 82) := ⟨by decide, by decide, rfl⟩
theorem fv_70_21 {X : HI} {Y : HL} : FV X Y 70 6 21 (.ref 83) := ⟨by decide, by decide, rfl⟩
theorem fv_70_22 {X : HI} {Y : HL} : FV X Y 70 6 22 (.long (Y 70)) := ⟨by decide, by decide, rfl⟩
theorem fwl_70 : FWL 70 6 22 := ⟨by decide, by decide, fun x y v => ⟨rfl, Nat.le_of_ble_eq_true rfl⟩⟩
theorem fv_70_23 {X : HI} {Y : HL} : FV X Y 70 6 23 (.int (X 70 23)) := ⟨by decide, by decide, rfl⟩
theorem fw_70_23 : FW 70 6 23 := ⟨by decide, by decide, fun x y v => ⟨rfl, Nat.le_of_ble_eq_true rfl⟩⟩
theorem fv_70_24 {X : HI} {Y : HL} : FV X Y 70 6 24 (.int (X 70 24)) := ⟨by decide, by decide, rfl⟩
theorem fw_70_24 : FW 70 6 24 := ⟨by decide, by decide, fun x y v => ⟨rfl, Nat.le_of_ble_eq_true rfl⟩⟩
theorem fv_70_25 {X : HI} {Y : HL} : FV X Y 70 6 25 (.int (X 70 25)) := ⟨by decide, by decide, rfl⟩
theorem fw_70_25 : FW 70 6 25 := ⟨by decide, by decide, fun x y v => ⟨rfl, Nat.le_of_ble_eq_true rfl⟩⟩
theorem fv_70_26 {X : HI} {Y : HL} : FV X Y 70 6 26 (.int (X 70 26)) := ⟨by decide, by decide, rfl⟩
theorem fw_70_26 : FW 70 6 26 := ⟨by decide, by decide, fun x y v => ⟨rfl, Nat.le_of_ble_eq_true rfl⟩⟩
theorem fv_70_27 {X : HI} {Y : HL} : FV X Y 70 6 27 (.int (X 70 27)) := ⟨by decide, by decide, rfl⟩
theorem fw_70_27 : FW 70 6 27 := ⟨by decide, by decide, fun x y v => ⟨rfl, Nat.le_of_ble_eq_true rfl⟩⟩
theorem fv_70_28 {X : HI} {Y : HL} : FV X Y 70 6 28 (.int (X 70 28)) := ⟨by decide, by decide, rfl⟩
theorem fw_70_28 : FW 70 6 28 := ⟨by decide, by decide, fun x y v => ⟨rfl, Nat.le_of_ble_eq_true rfl⟩⟩
theorem fv_70_29 {X : HI} {Y : HL} : FV X Y 70 6 29 (.ref 84) := ⟨by decide, by decide, rfl⟩
theorem fv_70_30 {X : HI} {Y : HL} : FV X Y 70 6 30 (.ref 85) := ⟨by decide, by decide, rfl⟩
theorem ob_70 : OB 70 "BrinePansModel" := ⟨by decide, 6, _, by decide, rfl, rfl⟩
theorem ai_2 : AI 2 36 := ⟨by decide, by decide⟩
theorem ai_4 : AI 4 6 := ⟨by decide, by decide⟩
theorem ai_5 : AI 5 5 := ⟨by decide, by decide⟩
theorem ai_9 : AI 9 6 := ⟨by decide, by decide⟩
theorem ai_10 : AI 10 6 := ⟨by decide, by decide⟩
theorem ai_14 : AI 14 64 := ⟨by decide, by decide⟩
theorem ai_15 : AI 15 8 := ⟨by decide, by decide⟩
theorem ai_71 : AI 71 36 := ⟨by decide, by decide⟩
theorem ai_72 : AI 72 6 := ⟨by decide, by decide⟩
theorem ai_73 : AI 73 5 := ⟨by decide, by decide⟩
theorem ai_74 : AI 74 18 := ⟨by decide, by decide⟩
theorem ai_75 : AI 75 5 := ⟨by decide, by decide⟩
theorem ai_76 : AI 76 15 := ⟨by decide, by decide⟩
theorem ai_77 : AI 77 15 := ⟨by decide, by decide⟩
theorem ai_78 : AI 78 210 := ⟨by decide, by decide⟩
theorem ai_79 : AI 79 30 := ⟨by decide, by decide⟩
theorem ai_81 : AI 81 6 := ⟨by decide, by decide⟩
theorem ai_82 : AI 82 6 := ⟨by decide, by decide⟩
theorem ai_83 : AI 83 6 := ⟨by decide, by decide⟩
theorem ai_84 : AI 84 8 := ⟨by decide, by decide⟩
theorem ai_85 : AI 85 64 := ⟨by decide, by decide⟩
theorem ai_17 : AI 17 6 := ⟨by decide, by decide⟩
theorem ai_18 : AI 18 6 := ⟨by decide, by decide⟩
theorem ai_20 : AI 20 6 := ⟨by decide, by decide⟩
theorem ai_21 : AI 21 6 := ⟨by decide, by decide⟩
theorem az_11 : AZ 11 6 := ⟨by decide, by decide⟩
theorem az_13 : AZ 13 2 := ⟨by decide, by decide⟩
theorem az_80 : AZ 80 2 := ⟨by decide, by decide⟩
theorem ar_7 : AR 7 14 := ⟨by decide, by decide⟩
theorem ar_12 : AR 12 2 := ⟨by decide, by decide⟩
def IsP (p : Nat) : Prop := 16 ≤ p ∧ p < 70 ∧ (p - 16) % 3 = 0
theorem isP_16 : IsP 16 := ⟨by decide, by decide, by decide⟩
theorem isP_19 : IsP 19 := ⟨by decide, by decide, by decide⟩
theorem isP_kd {p : Nat} (h : IsP p) : kd p = (0, 3) := by
  obtain ⟨h1, h2, h3⟩ := h
  unfold kd
  repeat rw [if_neg (by omega)]
  rw [if_pos h2, if_pos h3]
theorem isP_kd1 {p : Nat} (h : IsP p) : kd (p + 1) = (1, 6) := by
  obtain ⟨h1, h2, h3⟩ := h
  unfold kd
  rw [if_neg (by omega), if_neg (by omega), if_neg (by omega), if_neg (by omega), if_neg (by omega), if_neg (by omega), if_neg (by omega), if_neg (by omega), if_neg (by omega), if_neg (by omega), if_neg (by omega), if_neg (by omega), if_neg (by omega), if_neg (by omega), if_neg (by omega), if_neg (by omega), if_pos (by omega), if_neg (by omega)]
theorem isP_kd2 {p : Nat} (h : IsP p) : kd (p + 2) = (1, 6) := by
  obtain ⟨h1, h2, h3⟩ := h
  unfold kd
  rw [if_neg (by omega), if_neg (by omega), if_neg (by omega), if_neg (by omega), if_neg (by omega), if_neg (by omega), if_neg (by omega), if_neg (by omega), if_neg (by omega), if_neg (by omega), if_neg (by omega), if_neg (by omega), if_neg (by omega), if_neg (by omega), if_neg (by omega), if_neg (by omega), if_pos (by omega), if_neg (by omega)]
theorem fB_P {p : Nat} (h : IsP p) (x : Nat → Int32) (y : Int64) : fB x y p = [.ref 3, .ref (p + 1), .ref (p + 2), .int (x 3), .int (x 4), .int (x 5)] := by
  obtain ⟨h1, h2, h3⟩ := h
  unfold fB
  rw [if_neg (by omega), if_neg (by omega), if_neg (by omega), if_neg (by omega), if_neg (by omega), if_neg (by omega)]
theorem isP_lt {p : Nat} (h : IsP p) : p < 86 := by have := h.2.1; omega
theorem ob_P {p : Nat} (h : IsP p) : OB p "BrinePans$Pans" := ⟨isP_lt h, 3, _, isP_kd h, rfl, rfl⟩
theorem ai_P1 {p : Nat} (h : IsP p) : AI (p + 1) 6 := ⟨by obtain ⟨h1, h2, h3⟩ := h; omega, isP_kd1 h⟩
theorem ai_P2 {p : Nat} (h : IsP p) : AI (p + 2) 6 := ⟨by obtain ⟨h1, h2, h3⟩ := h; omega, isP_kd2 h⟩
theorem fv_P0 {X : HI} {Y : HL} {p : Nat} (h : IsP p) : FV X Y p 3 0 (.ref 3) := ⟨isP_lt h, isP_kd h, by rw [fB_P h]; rfl⟩
theorem fv_P1 {X : HI} {Y : HL} {p : Nat} (h : IsP p) : FV X Y p 3 1 (.ref (p + 1)) := ⟨isP_lt h, isP_kd h, by rw [fB_P h]; rfl⟩
theorem fv_P2 {X : HI} {Y : HL} {p : Nat} (h : IsP p) : FV X Y p 3 2 (.ref (p + 2)) := ⟨isP_lt h, isP_kd h, by rw [fB_P h]; rfl⟩
theorem fv_P3 {X : HI} {Y : HL} {p : Nat} (h : IsP p) : FV X Y p 3 3 (.int (X p 3)) := ⟨isP_lt h, isP_kd h, by rw [fB_P h]; rfl⟩
theorem fv_P4 {X : HI} {Y : HL} {p : Nat} (h : IsP p) : FV X Y p 3 4 (.int (X p 4)) := ⟨isP_lt h, isP_kd h, by rw [fB_P h]; rfl⟩
theorem fv_P5 {X : HI} {Y : HL} {p : Nat} (h : IsP p) : FV X Y p 3 5 (.int (X p 5)) := ⟨isP_lt h, isP_kd h, by rw [fB_P h]; rfl⟩
theorem fw_P3 {p : Nat} (h : IsP p) : FW p 3 3 := ⟨isP_lt h, isP_kd h, fun x y v => ⟨by rw [fB_P h, fB_P h]; rfl, by rw [fB_P h]; exact Nat.le_of_ble_eq_true rfl⟩⟩
theorem fw_P4 {p : Nat} (h : IsP p) : FW p 3 4 := ⟨isP_lt h, isP_kd h, fun x y v => ⟨by rw [fB_P h, fB_P h]; rfl, by rw [fB_P h]; exact Nat.le_of_ble_eq_true rfl⟩⟩
theorem fw_P5 {p : Nat} (h : IsP p) : FW p 3 5 := ⟨isP_lt h, isP_kd h, fun x y v => ⟨by rw [fB_P h, fB_P h]; rfl, by rw [fB_P h]; exact Nat.le_of_ble_eq_true rfl⟩⟩
theorem ixb_cl {i : Int32} {n : Nat} (h : ixb i n = true) : i.toNatClampNeg < n := by
  have h2 := ixb_in h
  unfold vp_in at h2
  omega
theorem isP_r7 {i : Int32} (h : ixb i 14 = true) : IsP (rA 7 i.toNatClampNeg) := by
  have h2 := ixb_cl h
  unfold rA IsP
  rw [if_pos rfl]
  omega
theorem isP_r12 {i : Int32} (h : ixb i 2 = true) : IsP (rA 12 i.toNatClampNeg) := by
  have h2 := ixb_cl h
  unfold rA IsP
  rw [if_neg (by decide)]
  omega
end
section
theorem d_Mth_min_0 : decode prog_10_method_69_code 0 = .ok (.iload_n 0, 1) := by decide +kernel
theorem d_Mth_min_1 : decode prog_10_method_69_code 1 = .ok (.iload_n 1, 1) := by decide +kernel
theorem d_Mth_min_2 : decode prog_10_method_69_code 2 = .ok (.if_icmp .gt 7, 3) := by decide +kernel
theorem d_Mth_min_5 : decode prog_10_method_69_code 5 = .ok (.iload_n 0, 1) := by decide +kernel
theorem d_Mth_min_6 : decode prog_10_method_69_code 6 = .ok (.goto 4, 3) := by decide +kernel
theorem d_Mth_min_9 : decode prog_10_method_69_code 9 = .ok (.iload_n 1, 1) := by decide +kernel
theorem d_Mth_min_10 : decode prog_10_method_69_code 10 = .ok (.ireturn, 1) := by decide +kernel
theorem d_Pan_copy_0 : decode prog_5_method_3_code 0 = .ok (.iconst 0, 1) := by decide +kernel
theorem d_Pan_copy_1 : decode prog_5_method_3_code 1 = .ok (.istore_n 2, 1) := by decide +kernel
theorem d_Pan_copy_2 : decode prog_5_method_3_code 2 = .ok (.iload_n 2, 1) := by decide +kernel
theorem d_Pan_copy_3 : decode prog_5_method_3_code 3 = .ok (.bipush 6, 2) := by decide +kernel
theorem d_Pan_copy_5 : decode prog_5_method_3_code 5 = .ok (.if_icmp .ge 33, 3) := by decide +kernel
theorem d_Pan_copy_8 : decode prog_5_method_3_code 8 = .ok (.aload_n 0, 1) := by decide +kernel
theorem d_Pan_copy_9 : decode prog_5_method_3_code 9 = .ok (.getfield 9, 3) := by decide +kernel
theorem d_Pan_copy_12 : decode prog_5_method_3_code 12 = .ok (.iload_n 2, 1) := by decide +kernel
theorem d_Pan_copy_13 : decode prog_5_method_3_code 13 = .ok (.aload_n 1, 1) := by decide +kernel
theorem d_Pan_copy_14 : decode prog_5_method_3_code 14 = .ok (.getfield 9, 3) := by decide +kernel
theorem d_Pan_copy_17 : decode prog_5_method_3_code 17 = .ok (.iload_n 2, 1) := by decide +kernel
theorem d_Pan_copy_18 : decode prog_5_method_3_code 18 = .ok (.iaload, 1) := by decide +kernel
theorem d_Pan_copy_19 : decode prog_5_method_3_code 19 = .ok (.iastore, 1) := by decide +kernel
theorem d_Pan_copy_20 : decode prog_5_method_3_code 20 = .ok (.aload_n 0, 1) := by decide +kernel
theorem d_Pan_copy_21 : decode prog_5_method_3_code 21 = .ok (.getfield 15, 3) := by decide +kernel
theorem d_Pan_copy_24 : decode prog_5_method_3_code 24 = .ok (.iload_n 2, 1) := by decide +kernel
theorem d_Pan_copy_25 : decode prog_5_method_3_code 25 = .ok (.aload_n 1, 1) := by decide +kernel
theorem d_Pan_copy_26 : decode prog_5_method_3_code 26 = .ok (.getfield 15, 3) := by decide +kernel
theorem d_Pan_copy_29 : decode prog_5_method_3_code 29 = .ok (.iload_n 2, 1) := by decide +kernel
theorem d_Pan_copy_30 : decode prog_5_method_3_code 30 = .ok (.iaload, 1) := by decide +kernel
theorem d_Pan_copy_31 : decode prog_5_method_3_code 31 = .ok (.iastore, 1) := by decide +kernel
theorem d_Pan_copy_32 : decode prog_5_method_3_code 32 = .ok (.iinc 2 1, 3) := by decide +kernel
theorem d_Pan_copy_35 : decode prog_5_method_3_code 35 = .ok (.goto (-33), 3) := by decide +kernel
theorem d_Pan_copy_38 : decode prog_5_method_3_code 38 = .ok (.aload_n 0, 1) := by decide +kernel
theorem d_Pan_copy_39 : decode prog_5_method_3_code 39 = .ok (.aload_n 1, 1) := by decide +kernel
theorem d_Pan_copy_40 : decode prog_5_method_3_code 40 = .ok (.getfield 18, 3) := by decide +kernel
theorem d_Pan_copy_43 : decode prog_5_method_3_code 43 = .ok (.putfield 18, 3) := by decide +kernel
theorem d_Pan_copy_46 : decode prog_5_method_3_code 46 = .ok (.aload_n 0, 1) := by decide +kernel
theorem d_Pan_copy_47 : decode prog_5_method_3_code 47 = .ok (.aload_n 1, 1) := by decide +kernel
theorem d_Pan_copy_48 : decode prog_5_method_3_code 48 = .ok (.getfield 22, 3) := by decide +kernel
theorem d_Pan_copy_51 : decode prog_5_method_3_code 51 = .ok (.putfield 22, 3) := by decide +kernel
theorem d_Pan_copy_54 : decode prog_5_method_3_code 54 = .ok (.aload_n 0, 1) := by decide +kernel
theorem d_Pan_copy_55 : decode prog_5_method_3_code 55 = .ok (.aload_n 1, 1) := by decide +kernel
theorem d_Pan_copy_56 : decode prog_5_method_3_code 56 = .ok (.getfield 25, 3) := by decide +kernel
theorem d_Pan_copy_59 : decode prog_5_method_3_code 59 = .ok (.putfield 25, 3) := by decide +kernel
theorem d_Pan_copy_62 : decode prog_5_method_3_code 62 = .ok (.return_, 1) := by decide +kernel
theorem d_Gro_clear_0 : decode prog_4_method_2_code 0 = .ok (.aload_n 0, 1) := by decide +kernel
theorem d_Gro_clear_1 : decode prog_4_method_2_code 1 = .ok (.iconst 0, 1) := by decide +kernel
theorem d_Gro_clear_2 : decode prog_4_method_2_code 2 = .ok (.putfield 18, 3) := by decide +kernel
theorem d_Gro_clear_5 : decode prog_4_method_2_code 5 = .ok (.aload_n 0, 1) := by decide +kernel
theorem d_Gro_clear_6 : decode prog_4_method_2_code 6 = .ok (.iconst 0, 1) := by decide +kernel
theorem d_Gro_clear_7 : decode prog_4_method_2_code 7 = .ok (.putfield 22, 3) := by decide +kernel
theorem d_Gro_clear_10 : decode prog_4_method_2_code 10 = .ok (.return_, 1) := by decide +kernel
theorem d_Gro_addPan_0 : decode prog_4_method_3_code 0 = .ok (.aload_n 0, 1) := by decide +kernel
theorem d_Gro_addPan_1 : decode prog_4_method_3_code 1 = .ok (.getfield 18, 3) := by decide +kernel
theorem d_Gro_addPan_4 : decode prog_4_method_3_code 4 = .ok (.bipush 6, 2) := by decide +kernel
theorem d_Gro_addPan_6 : decode prog_4_method_3_code 6 = .ok (.if_icmp .ge 23, 3) := by decide +kernel
theorem d_Gro_addPan_9 : decode prog_4_method_3_code 9 = .ok (.aload_n 0, 1) := by decide +kernel
theorem d_Gro_addPan_10 : decode prog_4_method_3_code 10 = .ok (.getfield 9, 3) := by decide +kernel
theorem d_Gro_addPan_13 : decode prog_4_method_3_code 13 = .ok (.aload_n 0, 1) := by decide +kernel
theorem d_Gro_addPan_14 : decode prog_4_method_3_code 14 = .ok (.getfield 18, 3) := by decide +kernel
theorem d_Gro_addPan_17 : decode prog_4_method_3_code 17 = .ok (.iload_n 1, 1) := by decide +kernel
theorem d_Gro_addPan_18 : decode prog_4_method_3_code 18 = .ok (.iastore, 1) := by decide +kernel
theorem d_Gro_addPan_19 : decode prog_4_method_3_code 19 = .ok (.aload_n 0, 1) := by decide +kernel
theorem d_Gro_addPan_20 : decode prog_4_method_3_code 20 = .ok (.dup, 1) := by decide +kernel
theorem d_Gro_addPan_21 : decode prog_4_method_3_code 21 = .ok (.getfield 18, 3) := by decide +kernel
theorem d_Gro_addPan_24 : decode prog_4_method_3_code 24 = .ok (.iconst 1, 1) := by decide +kernel
theorem d_Gro_addPan_25 : decode prog_4_method_3_code 25 = .ok (.iadd, 1) := by decide +kernel
theorem d_Gro_addPan_26 : decode prog_4_method_3_code 26 = .ok (.putfield 18, 3) := by decide +kernel
theorem d_Gro_addPan_29 : decode prog_4_method_3_code 29 = .ok (.return_, 1) := by decide +kernel
theorem d_Gro_addSky_0 : decode prog_4_method_4_code 0 = .ok (.aload_n 0, 1) := by decide +kernel
theorem d_Gro_addSky_1 : decode prog_4_method_4_code 1 = .ok (.getfield 22, 3) := by decide +kernel
theorem d_Gro_addSky_4 : decode prog_4_method_4_code 4 = .ok (.iconst 5, 1) := by decide +kernel
theorem d_Gro_addSky_5 : decode prog_4_method_4_code 5 = .ok (.if_icmp .ge 23, 3) := by decide +kernel
theorem d_Gro_addSky_8 : decode prog_4_method_4_code 8 = .ok (.aload_n 0, 1) := by decide +kernel
theorem d_Gro_addSky_9 : decode prog_4_method_4_code 9 = .ok (.getfield 15, 3) := by decide +kernel
theorem d_Gro_addSky_12 : decode prog_4_method_4_code 12 = .ok (.aload_n 0, 1) := by decide +kernel
theorem d_Gro_addSky_13 : decode prog_4_method_4_code 13 = .ok (.getfield 22, 3) := by decide +kernel
theorem d_Gro_addSky_16 : decode prog_4_method_4_code 16 = .ok (.iload_n 1, 1) := by decide +kernel
theorem d_Gro_addSky_17 : decode prog_4_method_4_code 17 = .ok (.iastore, 1) := by decide +kernel
theorem d_Gro_addSky_18 : decode prog_4_method_4_code 18 = .ok (.aload_n 0, 1) := by decide +kernel
theorem d_Gro_addSky_19 : decode prog_4_method_4_code 19 = .ok (.dup, 1) := by decide +kernel
theorem d_Gro_addSky_20 : decode prog_4_method_4_code 20 = .ok (.getfield 22, 3) := by decide +kernel
theorem d_Gro_addSky_23 : decode prog_4_method_4_code 23 = .ok (.iconst 1, 1) := by decide +kernel
theorem d_Gro_addSky_24 : decode prog_4_method_4_code 24 = .ok (.iadd, 1) := by decide +kernel
theorem d_Gro_addSky_25 : decode prog_4_method_4_code 25 = .ok (.putfield 22, 3) := by decide +kernel
theorem d_Gro_addSky_28 : decode prog_4_method_4_code 28 = .ok (.return_, 1) := by decide +kernel
theorem d_Gro_hasPan_0 : decode prog_4_method_5_code 0 = .ok (.iload_n 1, 1) := by decide +kernel
theorem d_Gro_hasPan_1 : decode prog_4_method_5_code 1 = .ok (.ifCond .lt 15, 3) := by decide +kernel
theorem d_Gro_hasPan_4 : decode prog_4_method_5_code 4 = .ok (.iload_n 1, 1) := by decide +kernel
theorem d_Gro_hasPan_5 : decode prog_4_method_5_code 5 = .ok (.aload_n 0, 1) := by decide +kernel
theorem d_Gro_hasPan_6 : decode prog_4_method_5_code 6 = .ok (.getfield 18, 3) := by decide +kernel
theorem d_Gro_hasPan_9 : decode prog_4_method_5_code 9 = .ok (.if_icmp .ge 7, 3) := by decide +kernel
theorem d_Gro_hasPan_12 : decode prog_4_method_5_code 12 = .ok (.iconst 1, 1) := by decide +kernel
theorem d_Gro_hasPan_13 : decode prog_4_method_5_code 13 = .ok (.goto 4, 3) := by decide +kernel
theorem d_Gro_hasPan_16 : decode prog_4_method_5_code 16 = .ok (.iconst 0, 1) := by decide +kernel
theorem d_Gro_hasPan_17 : decode prog_4_method_5_code 17 = .ok (.ireturn, 1) := by decide +kernel
theorem d_Gro_gateCount_0 : decode prog_4_method_6_code 0 = .ok (.aload_n 0, 1) := by decide +kernel
theorem d_Gro_gateCount_1 : decode prog_4_method_6_code 1 = .ok (.getfield 18, 3) := by decide +kernel
theorem d_Gro_gateCount_4 : decode prog_4_method_6_code 4 = .ok (.ifCond .ne 7, 3) := by decide +kernel
theorem d_Gro_gateCount_7 : decode prog_4_method_6_code 7 = .ok (.iconst 0, 1) := by decide +kernel
theorem d_Gro_gateCount_8 : decode prog_4_method_6_code 8 = .ok (.goto 9, 3) := by decide +kernel
theorem d_Gro_gateCount_11 : decode prog_4_method_6_code 11 = .ok (.aload_n 0, 1) := by decide +kernel
theorem d_Gro_gateCount_12 : decode prog_4_method_6_code 12 = .ok (.getfield 18, 3) := by decide +kernel
theorem d_Gro_gateCount_15 : decode prog_4_method_6_code 15 = .ok (.iconst 1, 1) := by decide +kernel
theorem d_Gro_gateCount_16 : decode prog_4_method_6_code 16 = .ok (.isub, 1) := by decide +kernel
theorem d_Gro_gateCount_17 : decode prog_4_method_6_code 17 = .ok (.ireturn, 1) := by decide +kernel
theorem d_Gro_hasGate_0 : decode prog_4_method_7_code 0 = .ok (.iload_n 1, 1) := by decide +kernel
theorem d_Gro_hasGate_1 : decode prog_4_method_7_code 1 = .ok (.ifCond .lt 15, 3) := by decide +kernel
theorem d_Gro_hasGate_4 : decode prog_4_method_7_code 4 = .ok (.iload_n 1, 1) := by decide +kernel
theorem d_Gro_hasGate_5 : decode prog_4_method_7_code 5 = .ok (.aload_n 0, 1) := by decide +kernel
theorem d_Gro_hasGate_6 : decode prog_4_method_7_code 6 = .ok (.invokevirtual 25, 3) := by decide +kernel
theorem d_Gro_hasGate_9 : decode prog_4_method_7_code 9 = .ok (.if_icmp .ge 7, 3) := by decide +kernel
theorem d_Gro_hasGate_12 : decode prog_4_method_7_code 12 = .ok (.iconst 1, 1) := by decide +kernel
theorem d_Gro_hasGate_13 : decode prog_4_method_7_code 13 = .ok (.goto 4, 3) := by decide +kernel
theorem d_Gro_hasGate_16 : decode prog_4_method_7_code 16 = .ok (.iconst 0, 1) := by decide +kernel
theorem d_Gro_hasGate_17 : decode prog_4_method_7_code 17 = .ok (.ireturn, 1) := by decide +kernel
theorem d_Gro_skyOf_0 : decode prog_4_method_8_code 0 = .ok (.aload_n 0, 1) := by decide +kernel
theorem d_Gro_skyOf_1 : decode prog_4_method_8_code 1 = .ok (.getfield 22, 3) := by decide +kernel
theorem d_Gro_skyOf_4 : decode prog_4_method_8_code 4 = .ok (.ifCond .eq 7, 3) := by decide +kernel
theorem d_Gro_skyOf_7 : decode prog_4_method_8_code 7 = .ok (.iload_n 1, 1) := by decide +kernel
theorem d_Gro_skyOf_8 : decode prog_4_method_8_code 8 = .ok (.ifCond .ge 7, 3) := by decide +kernel
theorem d_Gro_skyOf_11 : decode prog_4_method_8_code 11 = .ok (.iconst 0, 1) := by decide +kernel
theorem d_Gro_skyOf_12 : decode prog_4_method_8_code 12 = .ok (.goto 14, 3) := by decide +kernel
theorem d_Gro_skyOf_15 : decode prog_4_method_8_code 15 = .ok (.aload_n 0, 1) := by decide +kernel
theorem d_Gro_skyOf_16 : decode prog_4_method_8_code 16 = .ok (.getfield 15, 3) := by decide +kernel
theorem d_Gro_skyOf_19 : decode prog_4_method_8_code 19 = .ok (.iload_n 1, 1) := by decide +kernel
theorem d_Gro_skyOf_20 : decode prog_4_method_8_code 20 = .ok (.aload_n 0, 1) := by decide +kernel
theorem d_Gro_skyOf_21 : decode prog_4_method_8_code 21 = .ok (.getfield 22, 3) := by decide +kernel
theorem d_Gro_skyOf_24 : decode prog_4_method_8_code 24 = .ok (.irem, 1) := by decide +kernel
theorem d_Gro_skyOf_25 : decode prog_4_method_8_code 25 = .ok (.iaload, 1) := by decide +kernel
theorem d_Gro_skyOf_26 : decode prog_4_method_8_code 26 = .ok (.ireturn, 1) := by decide +kernel
theorem d_Gro_depthOf_0 : decode prog_4_method_9_code 0 = .ok (.aload_n 0, 1) := by decide +kernel
theorem d_Gro_depthOf_1 : decode prog_4_method_9_code 1 = .ok (.getfield 9, 3) := by decide +kernel
theorem d_Gro_depthOf_4 : decode prog_4_method_9_code 4 = .ok (.iload_n 1, 1) := by decide +kernel
theorem d_Gro_depthOf_5 : decode prog_4_method_9_code 5 = .ok (.iaload, 1) := by decide +kernel
theorem d_Gro_depthOf_6 : decode prog_4_method_9_code 6 = .ok (.iconst 1, 1) := by decide +kernel
theorem d_Gro_depthOf_7 : decode prog_4_method_9_code 7 = .ok (.if_icmp .ne 8, 3) := by decide +kernel
theorem d_Gro_depthOf_10 : decode prog_4_method_9_code 10 = .ok (.bipush 9, 2) := by decide +kernel
theorem d_Gro_depthOf_12 : decode prog_4_method_9_code 12 = .ok (.goto 5, 3) := by decide +kernel
theorem d_Gro_depthOf_15 : decode prog_4_method_9_code 15 = .ok (.bipush 6, 2) := by decide +kernel
theorem d_Gro_depthOf_17 : decode prog_4_method_9_code 17 = .ok (.ireturn, 1) := by decide +kernel
theorem d_Pan_emptyAllBut_0 : decode prog_5_method_4_code 0 = .ok (.iconst 0, 1) := by decide +kernel
theorem d_Pan_emptyAllBut_1 : decode prog_5_method_4_code 1 = .ok (.istore_n 2, 1) := by decide +kernel
theorem d_Pan_emptyAllBut_2 : decode prog_5_method_4_code 2 = .ok (.iload_n 2, 1) := by decide +kernel
theorem d_Pan_emptyAllBut_3 : decode prog_5_method_4_code 3 = .ok (.bipush 6, 2) := by decide +kernel
theorem d_Pan_emptyAllBut_5 : decode prog_5_method_4_code 5 = .ok (.if_icmp .ge 31, 3) := by decide +kernel
theorem d_Pan_emptyAllBut_8 : decode prog_5_method_4_code 8 = .ok (.iload_n 1, 1) := by decide +kernel
theorem d_Pan_emptyAllBut_9 : decode prog_5_method_4_code 9 = .ok (.iload_n 2, 1) := by decide +kernel
theorem d_Pan_emptyAllBut_10 : decode prog_5_method_4_code 10 = .ok (.ishr, 1) := by decide +kernel
theorem d_Pan_emptyAllBut_11 : decode prog_5_method_4_code 11 = .ok (.iconst 1, 1) := by decide +kernel
theorem d_Pan_emptyAllBut_12 : decode prog_5_method_4_code 12 = .ok (.iand, 1) := by decide +kernel
theorem d_Pan_emptyAllBut_13 : decode prog_5_method_4_code 13 = .ok (.ifCond .ne 17, 3) := by decide +kernel
theorem d_Pan_emptyAllBut_16 : decode prog_5_method_4_code 16 = .ok (.aload_n 0, 1) := by decide +kernel
theorem d_Pan_emptyAllBut_17 : decode prog_5_method_4_code 17 = .ok (.getfield 9, 3) := by decide +kernel
theorem d_Pan_emptyAllBut_20 : decode prog_5_method_4_code 20 = .ok (.iload_n 2, 1) := by decide +kernel
theorem d_Pan_emptyAllBut_21 : decode prog_5_method_4_code 21 = .ok (.iconst 0, 1) := by decide +kernel
theorem d_Pan_emptyAllBut_22 : decode prog_5_method_4_code 22 = .ok (.iastore, 1) := by decide +kernel
theorem d_Pan_emptyAllBut_23 : decode prog_5_method_4_code 23 = .ok (.aload_n 0, 1) := by decide +kernel
theorem d_Pan_emptyAllBut_24 : decode prog_5_method_4_code 24 = .ok (.getfield 15, 3) := by decide +kernel
theorem d_Pan_emptyAllBut_27 : decode prog_5_method_4_code 27 = .ok (.iload_n 2, 1) := by decide +kernel
theorem d_Pan_emptyAllBut_28 : decode prog_5_method_4_code 28 = .ok (.iconst 0, 1) := by decide +kernel
theorem d_Pan_emptyAllBut_29 : decode prog_5_method_4_code 29 = .ok (.iastore, 1) := by decide +kernel
theorem d_Pan_emptyAllBut_30 : decode prog_5_method_4_code 30 = .ok (.iinc 2 1, 3) := by decide +kernel
theorem d_Pan_emptyAllBut_33 : decode prog_5_method_4_code 33 = .ok (.goto (-31), 3) := by decide +kernel
theorem d_Pan_emptyAllBut_36 : decode prog_5_method_4_code 36 = .ok (.return_, 1) := by decide +kernel
theorem d_Pan_clear_0 : decode prog_5_method_2_code 0 = .ok (.aload_n 0, 1) := by decide +kernel
theorem d_Pan_clear_1 : decode prog_5_method_2_code 1 = .ok (.iconst 0, 1) := by decide +kernel
theorem d_Pan_clear_2 : decode prog_5_method_2_code 2 = .ok (.invokevirtual 32, 3) := by decide +kernel
theorem d_Pan_clear_5 : decode prog_5_method_2_code 5 = .ok (.aload_n 0, 1) := by decide +kernel
theorem d_Pan_clear_6 : decode prog_5_method_2_code 6 = .ok (.iconst 0, 1) := by decide +kernel
theorem d_Pan_clear_7 : decode prog_5_method_2_code 7 = .ok (.putfield 18, 3) := by decide +kernel
theorem d_Pan_clear_10 : decode prog_5_method_2_code 10 = .ok (.aload_n 0, 1) := by decide +kernel
theorem d_Pan_clear_11 : decode prog_5_method_2_code 11 = .ok (.iconst 0, 1) := by decide +kernel
theorem d_Pan_clear_12 : decode prog_5_method_2_code 12 = .ok (.putfield 22, 3) := by decide +kernel
theorem d_Pan_clear_15 : decode prog_5_method_2_code 15 = .ok (.aload_n 0, 1) := by decide +kernel
theorem d_Pan_clear_16 : decode prog_5_method_2_code 16 = .ok (.iconst 0, 1) := by decide +kernel
theorem d_Pan_clear_17 : decode prog_5_method_2_code 17 = .ok (.putfield 25, 3) := by decide +kernel
theorem d_Pan_clear_20 : decode prog_5_method_2_code 20 = .ok (.return_, 1) := by decide +kernel
theorem d_Pan_brineOf_0 : decode prog_5_method_5_code 0 = .ok (.bipush 8, 2) := by decide +kernel
theorem d_Pan_brineOf_2 : decode prog_5_method_5_code 2 = .ok (.aload_n 0, 1) := by decide +kernel
theorem d_Pan_brineOf_3 : decode prog_5_method_5_code 3 = .ok (.getfield 9, 3) := by decide +kernel
theorem d_Pan_brineOf_6 : decode prog_5_method_5_code 6 = .ok (.iload_n 1, 1) := by decide +kernel
theorem d_Pan_brineOf_7 : decode prog_5_method_5_code 7 = .ok (.iaload, 1) := by decide +kernel
theorem d_Pan_brineOf_8 : decode prog_5_method_5_code 8 = .ok (.imul, 1) := by decide +kernel
theorem d_Pan_brineOf_9 : decode prog_5_method_5_code 9 = .ok (.istore_n 2, 1) := by decide +kernel
theorem d_Pan_brineOf_10 : decode prog_5_method_5_code 10 = .ok (.aload_n 0, 1) := by decide +kernel
theorem d_Pan_brineOf_11 : decode prog_5_method_5_code 11 = .ok (.getfield 15, 3) := by decide +kernel
theorem d_Pan_brineOf_14 : decode prog_5_method_5_code 14 = .ok (.iload_n 1, 1) := by decide +kernel
theorem d_Pan_brineOf_15 : decode prog_5_method_5_code 15 = .ok (.iaload, 1) := by decide +kernel
theorem d_Pan_brineOf_16 : decode prog_5_method_5_code 16 = .ok (.iload_n 2, 1) := by decide +kernel
theorem d_Pan_brineOf_17 : decode prog_5_method_5_code 17 = .ok (.if_icmp .ge 12, 3) := by decide +kernel
theorem d_Pan_brineOf_20 : decode prog_5_method_5_code 20 = .ok (.aload_n 0, 1) := by decide +kernel
theorem d_Pan_brineOf_21 : decode prog_5_method_5_code 21 = .ok (.getfield 15, 3) := by decide +kernel
theorem d_Pan_brineOf_24 : decode prog_5_method_5_code 24 = .ok (.iload_n 1, 1) := by decide +kernel
theorem d_Pan_brineOf_25 : decode prog_5_method_5_code 25 = .ok (.iaload, 1) := by decide +kernel
theorem d_Pan_brineOf_26 : decode prog_5_method_5_code 26 = .ok (.goto 4, 3) := by decide +kernel
theorem d_Pan_brineOf_29 : decode prog_5_method_5_code 29 = .ok (.iload_n 2, 1) := by decide +kernel
theorem d_Pan_brineOf_30 : decode prog_5_method_5_code 30 = .ok (.ireturn, 1) := by decide +kernel
theorem d_Pan_crustOf_0 : decode prog_5_method_6_code 0 = .ok (.aload_n 0, 1) := by decide +kernel
theorem d_Pan_crustOf_1 : decode prog_5_method_6_code 1 = .ok (.getfield 15, 3) := by decide +kernel
theorem d_Pan_crustOf_4 : decode prog_5_method_6_code 4 = .ok (.iload_n 1, 1) := by decide +kernel
theorem d_Pan_crustOf_5 : decode prog_5_method_6_code 5 = .ok (.iaload, 1) := by decide +kernel
theorem d_Pan_crustOf_6 : decode prog_5_method_6_code 6 = .ok (.aload_n 0, 1) := by decide +kernel
theorem d_Pan_crustOf_7 : decode prog_5_method_6_code 7 = .ok (.iload_n 1, 1) := by decide +kernel
theorem d_Pan_crustOf_8 : decode prog_5_method_6_code 8 = .ok (.invokevirtual 36, 3) := by decide +kernel
theorem d_Pan_crustOf_11 : decode prog_5_method_6_code 11 = .ok (.isub, 1) := by decide +kernel
theorem d_Pan_crustOf_12 : decode prog_5_method_6_code 12 = .ok (.ireturn, 1) := by decide +kernel
theorem d_Pan_roomOf_0 : decode prog_5_method_7_code 0 = .ok (.aload_n 0, 1) := by decide +kernel
theorem d_Pan_roomOf_1 : decode prog_5_method_7_code 1 = .ok (.getfield 28, 3) := by decide +kernel
theorem d_Pan_roomOf_4 : decode prog_5_method_7_code 4 = .ok (.iload_n 1, 1) := by decide +kernel
theorem d_Pan_roomOf_5 : decode prog_5_method_7_code 5 = .ok (.invokevirtual 40, 3) := by decide +kernel
theorem d_Pan_roomOf_8 : decode prog_5_method_7_code 8 = .ok (.aload_n 0, 1) := by decide +kernel
theorem d_Pan_roomOf_9 : decode prog_5_method_7_code 9 = .ok (.getfield 9, 3) := by decide +kernel
theorem d_Pan_roomOf_12 : decode prog_5_method_7_code 12 = .ok (.iload_n 1, 1) := by decide +kernel
theorem d_Pan_roomOf_13 : decode prog_5_method_7_code 13 = .ok (.iaload, 1) := by decide +kernel
theorem d_Pan_roomOf_14 : decode prog_5_method_7_code 14 = .ok (.isub, 1) := by decide +kernel
theorem d_Pan_roomOf_15 : decode prog_5_method_7_code 15 = .ok (.ireturn, 1) := by decide +kernel
theorem d_Pan_sumOf_0 : decode prog_5_method_8_code 0 = .ok (.iconst 0, 1) := by decide +kernel
theorem d_Pan_sumOf_1 : decode prog_5_method_8_code 1 = .ok (.istore_n 2, 1) := by decide +kernel
theorem d_Pan_sumOf_2 : decode prog_5_method_8_code 2 = .ok (.iconst 0, 1) := by decide +kernel
theorem d_Pan_sumOf_3 : decode prog_5_method_8_code 3 = .ok (.istore_n 3, 1) := by decide +kernel
theorem d_Pan_sumOf_4 : decode prog_5_method_8_code 4 = .ok (.iload_n 3, 1) := by decide +kernel
theorem d_Pan_sumOf_5 : decode prog_5_method_8_code 5 = .ok (.aload_n 0, 1) := by decide +kernel
theorem d_Pan_sumOf_6 : decode prog_5_method_8_code 6 = .ok (.getfield 28, 3) := by decide +kernel
theorem d_Pan_sumOf_9 : decode prog_5_method_8_code 9 = .ok (.getfield 45, 3) := by decide +kernel
theorem d_Pan_sumOf_12 : decode prog_5_method_8_code 12 = .ok (.if_icmp .ge 15, 3) := by decide +kernel
theorem d_Pan_sumOf_15 : decode prog_5_method_8_code 15 = .ok (.iload_n 2, 1) := by decide +kernel
theorem d_Pan_sumOf_16 : decode prog_5_method_8_code 16 = .ok (.aload_n 1, 1) := by decide +kernel
theorem d_Pan_sumOf_17 : decode prog_5_method_8_code 17 = .ok (.iload_n 3, 1) := by decide +kernel
theorem d_Pan_sumOf_18 : decode prog_5_method_8_code 18 = .ok (.iaload, 1) := by decide +kernel
theorem d_Pan_sumOf_19 : decode prog_5_method_8_code 19 = .ok (.iadd, 1) := by decide +kernel
theorem d_Pan_sumOf_20 : decode prog_5_method_8_code 20 = .ok (.istore_n 2, 1) := by decide +kernel
theorem d_Pan_sumOf_21 : decode prog_5_method_8_code 21 = .ok (.iinc 3 1, 3) := by decide +kernel
theorem d_Pan_sumOf_24 : decode prog_5_method_8_code 24 = .ok (.goto (-20), 3) := by decide +kernel
theorem d_Pan_sumOf_27 : decode prog_5_method_8_code 27 = .ok (.iload_n 2, 1) := by decide +kernel
theorem d_Pan_sumOf_28 : decode prog_5_method_8_code 28 = .ok (.ireturn, 1) := by decide +kernel
theorem d_Pan_crustOfAll_0 : decode prog_5_method_9_code 0 = .ok (.iconst 0, 1) := by decide +kernel
theorem d_Pan_crustOfAll_1 : decode prog_5_method_9_code 1 = .ok (.istore_n 1, 1) := by decide +kernel
theorem d_Pan_crustOfAll_2 : decode prog_5_method_9_code 2 = .ok (.iconst 0, 1) := by decide +kernel
theorem d_Pan_crustOfAll_3 : decode prog_5_method_9_code 3 = .ok (.istore_n 2, 1) := by decide +kernel
theorem d_Pan_crustOfAll_4 : decode prog_5_method_9_code 4 = .ok (.iload_n 2, 1) := by decide +kernel
theorem d_Pan_crustOfAll_5 : decode prog_5_method_9_code 5 = .ok (.aload_n 0, 1) := by decide +kernel
theorem d_Pan_crustOfAll_6 : decode prog_5_method_9_code 6 = .ok (.getfield 28, 3) := by decide +kernel
theorem d_Pan_crustOfAll_9 : decode prog_5_method_9_code 9 = .ok (.getfield 45, 3) := by decide +kernel
theorem d_Pan_crustOfAll_12 : decode prog_5_method_9_code 12 = .ok (.if_icmp .ge 17, 3) := by decide +kernel
theorem d_Pan_crustOfAll_15 : decode prog_5_method_9_code 15 = .ok (.iload_n 1, 1) := by decide +kernel
theorem d_Pan_crustOfAll_16 : decode prog_5_method_9_code 16 = .ok (.aload_n 0, 1) := by decide +kernel
theorem d_Pan_crustOfAll_17 : decode prog_5_method_9_code 17 = .ok (.iload_n 2, 1) := by decide +kernel
theorem d_Pan_crustOfAll_18 : decode prog_5_method_9_code 18 = .ok (.invokevirtual 48, 3) := by decide +kernel
theorem d_Pan_crustOfAll_21 : decode prog_5_method_9_code 21 = .ok (.iadd, 1) := by decide +kernel
theorem d_Pan_crustOfAll_22 : decode prog_5_method_9_code 22 = .ok (.istore_n 1, 1) := by decide +kernel
theorem d_Pan_crustOfAll_23 : decode prog_5_method_9_code 23 = .ok (.iinc 2 1, 3) := by decide +kernel
theorem d_Pan_crustOfAll_26 : decode prog_5_method_9_code 26 = .ok (.goto (-22), 3) := by decide +kernel
theorem d_Pan_crustOfAll_29 : decode prog_5_method_9_code 29 = .ok (.iload_n 1, 1) := by decide +kernel
theorem d_Pan_crustOfAll_30 : decode prog_5_method_9_code 30 = .ok (.ireturn, 1) := by decide +kernel
theorem d_Pan_canRake_0 : decode prog_5_method_10_code 0 = .ok (.aload_n 0, 1) := by decide +kernel
theorem d_Pan_canRake_1 : decode prog_5_method_10_code 1 = .ok (.getfield 9, 3) := by decide +kernel
theorem d_Pan_canRake_4 : decode prog_5_method_10_code 4 = .ok (.iload_n 1, 1) := by decide +kernel
theorem d_Pan_canRake_5 : decode prog_5_method_10_code 5 = .ok (.iaload, 1) := by decide +kernel
theorem d_Pan_canRake_6 : decode prog_5_method_10_code 6 = .ok (.iconst 1, 1) := by decide +kernel
theorem d_Pan_canRake_7 : decode prog_5_method_10_code 7 = .ok (.if_icmp .gt 15, 3) := by decide +kernel
theorem d_Pan_canRake_10 : decode prog_5_method_10_code 10 = .ok (.aload_n 0, 1) := by decide +kernel
theorem d_Pan_canRake_11 : decode prog_5_method_10_code 11 = .ok (.iload_n 1, 1) := by decide +kernel
theorem d_Pan_canRake_12 : decode prog_5_method_10_code 12 = .ok (.invokevirtual 48, 3) := by decide +kernel
theorem d_Pan_canRake_15 : decode prog_5_method_10_code 15 = .ok (.ifCond .le 7, 3) := by decide +kernel
theorem d_Pan_canRake_18 : decode prog_5_method_10_code 18 = .ok (.iconst 1, 1) := by decide +kernel
theorem d_Pan_canRake_19 : decode prog_5_method_10_code 19 = .ok (.goto 4, 3) := by decide +kernel
theorem d_Pan_canRake_22 : decode prog_5_method_10_code 22 = .ok (.iconst 0, 1) := by decide +kernel
theorem d_Pan_canRake_23 : decode prog_5_method_10_code 23 = .ok (.ireturn, 1) := by decide +kernel
theorem d_Pan_rakeable_0 : decode prog_5_method_11_code 0 = .ok (.iconst 0, 1) := by decide +kernel
theorem d_Pan_rakeable_1 : decode prog_5_method_11_code 1 = .ok (.istore_n 1, 1) := by decide +kernel
theorem d_Pan_rakeable_2 : decode prog_5_method_11_code 2 = .ok (.iconst 0, 1) := by decide +kernel
theorem d_Pan_rakeable_3 : decode prog_5_method_11_code 3 = .ok (.istore_n 2, 1) := by decide +kernel
theorem d_Pan_rakeable_4 : decode prog_5_method_11_code 4 = .ok (.iload_n 2, 1) := by decide +kernel
theorem d_Pan_rakeable_5 : decode prog_5_method_11_code 5 = .ok (.aload_n 0, 1) := by decide +kernel
theorem d_Pan_rakeable_6 : decode prog_5_method_11_code 6 = .ok (.getfield 28, 3) := by decide +kernel
theorem d_Pan_rakeable_9 : decode prog_5_method_11_code 9 = .ok (.getfield 45, 3) := by decide +kernel
theorem d_Pan_rakeable_12 : decode prog_5_method_11_code 12 = .ok (.if_icmp .ge 23, 3) := by decide +kernel
theorem d_Pan_rakeable_15 : decode prog_5_method_11_code 15 = .ok (.aload_n 0, 1) := by decide +kernel
theorem d_Pan_rakeable_16 : decode prog_5_method_11_code 16 = .ok (.iload_n 2, 1) := by decide +kernel
theorem d_Pan_rakeable_17 : decode prog_5_method_11_code 17 = .ok (.invokevirtual 51, 3) := by decide +kernel
theorem d_Pan_rakeable_20 : decode prog_5_method_11_code 20 = .ok (.ifCond .eq 9, 3) := by decide +kernel
theorem d_Pan_rakeable_23 : decode prog_5_method_11_code 23 = .ok (.iload_n 1, 1) := by decide +kernel
theorem d_Pan_rakeable_24 : decode prog_5_method_11_code 24 = .ok (.iconst 1, 1) := by decide +kernel
theorem d_Pan_rakeable_25 : decode prog_5_method_11_code 25 = .ok (.iload_n 2, 1) := by decide +kernel
theorem d_Pan_rakeable_26 : decode prog_5_method_11_code 26 = .ok (.ishl, 1) := by decide +kernel
theorem d_Pan_rakeable_27 : decode prog_5_method_11_code 27 = .ok (.ior, 1) := by decide +kernel
theorem d_Pan_rakeable_28 : decode prog_5_method_11_code 28 = .ok (.istore_n 1, 1) := by decide +kernel
theorem d_Pan_rakeable_29 : decode prog_5_method_11_code 29 = .ok (.iinc 2 1, 3) := by decide +kernel
theorem d_Pan_rakeable_32 : decode prog_5_method_11_code 32 = .ok (.goto (-28), 3) := by decide +kernel
theorem d_Pan_rakeable_35 : decode prog_5_method_11_code 35 = .ok (.iload_n 1, 1) := by decide +kernel
theorem d_Pan_rakeable_36 : decode prog_5_method_11_code 36 = .ok (.ireturn, 1) := by decide +kernel
theorem d_Pan_isOpen_0 : decode prog_5_method_12_code 0 = .ok (.aload_n 0, 1) := by decide +kernel
theorem d_Pan_isOpen_1 : decode prog_5_method_12_code 1 = .ok (.getfield 18, 3) := by decide +kernel
theorem d_Pan_isOpen_4 : decode prog_5_method_12_code 4 = .ok (.iload_n 1, 1) := by decide +kernel
theorem d_Pan_isOpen_5 : decode prog_5_method_12_code 5 = .ok (.ishr, 1) := by decide +kernel
theorem d_Pan_isOpen_6 : decode prog_5_method_12_code 6 = .ok (.iconst 1, 1) := by decide +kernel
theorem d_Pan_isOpen_7 : decode prog_5_method_12_code 7 = .ok (.iand, 1) := by decide +kernel
theorem d_Pan_isOpen_8 : decode prog_5_method_12_code 8 = .ok (.iconst 1, 1) := by decide +kernel
theorem d_Pan_isOpen_9 : decode prog_5_method_12_code 9 = .ok (.if_icmp .ne 7, 3) := by decide +kernel
theorem d_Pan_isOpen_12 : decode prog_5_method_12_code 12 = .ok (.iconst 1, 1) := by decide +kernel
theorem d_Pan_isOpen_13 : decode prog_5_method_12_code 13 = .ok (.goto 4, 3) := by decide +kernel
theorem d_Pan_isOpen_16 : decode prog_5_method_12_code 16 = .ok (.iconst 0, 1) := by decide +kernel
theorem d_Pan_isOpen_17 : decode prog_5_method_12_code 17 = .ok (.ireturn, 1) := by decide +kernel
theorem d_Pan_setGate_0 : decode prog_5_method_13_code 0 = .ok (.aload_n 0, 1) := by decide +kernel
theorem d_Pan_setGate_1 : decode prog_5_method_13_code 1 = .ok (.iload_n 1, 1) := by decide +kernel
theorem d_Pan_setGate_2 : decode prog_5_method_13_code 2 = .ok (.invokevirtual 55, 3) := by decide +kernel
theorem d_Pan_setGate_5 : decode prog_5_method_13_code 5 = .ok (.iload_n 2, 1) := by decide +kernel
theorem d_Pan_setGate_6 : decode prog_5_method_13_code 6 = .ok (.if_icmp .eq 15, 3) := by decide +kernel
theorem d_Pan_setGate_9 : decode prog_5_method_13_code 9 = .ok (.aload_n 0, 1) := by decide +kernel
theorem d_Pan_setGate_10 : decode prog_5_method_13_code 10 = .ok (.dup, 1) := by decide +kernel
theorem d_Pan_setGate_11 : decode prog_5_method_13_code 11 = .ok (.getfield 18, 3) := by decide +kernel
theorem d_Pan_setGate_14 : decode prog_5_method_13_code 14 = .ok (.iconst 1, 1) := by decide +kernel
theorem d_Pan_setGate_15 : decode prog_5_method_13_code 15 = .ok (.iload_n 1, 1) := by decide +kernel
theorem d_Pan_setGate_16 : decode prog_5_method_13_code 16 = .ok (.ishl, 1) := by decide +kernel
theorem d_Pan_setGate_17 : decode prog_5_method_13_code 17 = .ok (.ixor, 1) := by decide +kernel
theorem d_Pan_setGate_18 : decode prog_5_method_13_code 18 = .ok (.putfield 18, 3) := by decide +kernel
theorem d_Pan_setGate_21 : decode prog_5_method_13_code 21 = .ok (.return_, 1) := by decide +kernel
theorem d_Pan_drain_0 : decode prog_5_method_14_code 0 = .ok (.iload_n 2, 1) := by decide +kernel
theorem d_Pan_drain_1 : decode prog_5_method_14_code 1 = .ok (.iconst 1, 1) := by decide +kernel
theorem d_Pan_drain_2 : decode prog_5_method_14_code 2 = .ok (.if_icmp .lt 13, 3) := by decide +kernel
theorem d_Pan_drain_5 : decode prog_5_method_14_code 5 = .ok (.aload_n 0, 1) := by decide +kernel
theorem d_Pan_drain_6 : decode prog_5_method_14_code 6 = .ok (.getfield 9, 3) := by decide +kernel
theorem d_Pan_drain_9 : decode prog_5_method_14_code 9 = .ok (.iload_n 1, 1) := by decide +kernel
theorem d_Pan_drain_10 : decode prog_5_method_14_code 10 = .ok (.iaload, 1) := by decide +kernel
theorem d_Pan_drain_11 : decode prog_5_method_14_code 11 = .ok (.iload_n 2, 1) := by decide +kernel
theorem d_Pan_drain_12 : decode prog_5_method_14_code 12 = .ok (.if_icmp .ge 5, 3) := by decide +kernel
theorem d_Pan_drain_15 : decode prog_5_method_14_code 15 = .ok (.iconst 0, 1) := by decide +kernel
theorem d_Pan_drain_16 : decode prog_5_method_14_code 16 = .ok (.ireturn, 1) := by decide +kernel
theorem d_Pan_drain_17 : decode prog_5_method_14_code 17 = .ok (.aload_n 0, 1) := by decide +kernel
theorem d_Pan_drain_18 : decode prog_5_method_14_code 18 = .ok (.iload_n 1, 1) := by decide +kernel
theorem d_Pan_drain_19 : decode prog_5_method_14_code 19 = .ok (.invokevirtual 36, 3) := by decide +kernel
theorem d_Pan_drain_22 : decode prog_5_method_14_code 22 = .ok (.iload_n 2, 1) := by decide +kernel
theorem d_Pan_drain_23 : decode prog_5_method_14_code 23 = .ok (.imul, 1) := by decide +kernel
theorem d_Pan_drain_24 : decode prog_5_method_14_code 24 = .ok (.aload_n 0, 1) := by decide +kernel
theorem d_Pan_drain_25 : decode prog_5_method_14_code 25 = .ok (.getfield 9, 3) := by decide +kernel
theorem d_Pan_drain_28 : decode prog_5_method_14_code 28 = .ok (.iload_n 1, 1) := by decide +kernel
theorem d_Pan_drain_29 : decode prog_5_method_14_code 29 = .ok (.iaload, 1) := by decide +kernel
theorem d_Pan_drain_30 : decode prog_5_method_14_code 30 = .ok (.idiv, 1) := by decide +kernel
theorem d_Pan_drain_31 : decode prog_5_method_14_code 31 = .ok (.istore_n 3, 1) := by decide +kernel
theorem d_Pan_drain_32 : decode prog_5_method_14_code 32 = .ok (.aload_n 0, 1) := by decide +kernel
theorem d_Pan_drain_33 : decode prog_5_method_14_code 33 = .ok (.getfield 9, 3) := by decide +kernel
theorem d_Pan_drain_36 : decode prog_5_method_14_code 36 = .ok (.iload_n 1, 1) := by decide +kernel
theorem d_Pan_drain_37 : decode prog_5_method_14_code 37 = .ok (.dup2, 1) := by decide +kernel
theorem d_Pan_drain_38 : decode prog_5_method_14_code 38 = .ok (.iaload, 1) := by decide +kernel
theorem d_Pan_drain_39 : decode prog_5_method_14_code 39 = .ok (.iload_n 2, 1) := by decide +kernel
theorem d_Pan_drain_40 : decode prog_5_method_14_code 40 = .ok (.isub, 1) := by decide +kernel
theorem d_Pan_drain_41 : decode prog_5_method_14_code 41 = .ok (.iastore, 1) := by decide +kernel
theorem d_Pan_drain_42 : decode prog_5_method_14_code 42 = .ok (.aload_n 0, 1) := by decide +kernel
theorem d_Pan_drain_43 : decode prog_5_method_14_code 43 = .ok (.getfield 15, 3) := by decide +kernel
theorem d_Pan_drain_46 : decode prog_5_method_14_code 46 = .ok (.iload_n 1, 1) := by decide +kernel
theorem d_Pan_drain_47 : decode prog_5_method_14_code 47 = .ok (.dup2, 1) := by decide +kernel
theorem d_Pan_drain_48 : decode prog_5_method_14_code 48 = .ok (.iaload, 1) := by decide +kernel
theorem d_Pan_drain_49 : decode prog_5_method_14_code 49 = .ok (.iload_n 3, 1) := by decide +kernel
theorem d_Pan_drain_50 : decode prog_5_method_14_code 50 = .ok (.isub, 1) := by decide +kernel
theorem d_Pan_drain_51 : decode prog_5_method_14_code 51 = .ok (.iastore, 1) := by decide +kernel
theorem d_Pan_drain_52 : decode prog_5_method_14_code 52 = .ok (.iload_n 3, 1) := by decide +kernel
theorem d_Pan_drain_53 : decode prog_5_method_14_code 53 = .ok (.ireturn, 1) := by decide +kernel
theorem d_Pan_fill_0 : decode prog_5_method_15_code 0 = .ok (.aload_n 0, 1) := by decide +kernel
theorem d_Pan_fill_1 : decode prog_5_method_15_code 1 = .ok (.getfield 9, 3) := by decide +kernel
theorem d_Pan_fill_4 : decode prog_5_method_15_code 4 = .ok (.iload_n 1, 1) := by decide +kernel
theorem d_Pan_fill_5 : decode prog_5_method_15_code 5 = .ok (.dup2, 1) := by decide +kernel
theorem d_Pan_fill_6 : decode prog_5_method_15_code 6 = .ok (.iaload, 1) := by decide +kernel
theorem d_Pan_fill_7 : decode prog_5_method_15_code 7 = .ok (.iload_n 2, 1) := by decide +kernel
theorem d_Pan_fill_8 : decode prog_5_method_15_code 8 = .ok (.iadd, 1) := by decide +kernel
theorem d_Pan_fill_9 : decode prog_5_method_15_code 9 = .ok (.iastore, 1) := by decide +kernel
theorem d_Pan_fill_10 : decode prog_5_method_15_code 10 = .ok (.aload_n 0, 1) := by decide +kernel
theorem d_Pan_fill_11 : decode prog_5_method_15_code 11 = .ok (.getfield 15, 3) := by decide +kernel
theorem d_Pan_fill_14 : decode prog_5_method_15_code 14 = .ok (.iload_n 1, 1) := by decide +kernel
theorem d_Pan_fill_15 : decode prog_5_method_15_code 15 = .ok (.sipush 999, 3) := by decide +kernel
theorem d_Pan_fill_18 : decode prog_5_method_15_code 18 = .ok (.aload_n 0, 1) := by decide +kernel
theorem d_Pan_fill_19 : decode prog_5_method_15_code 19 = .ok (.getfield 15, 3) := by decide +kernel
theorem d_Pan_fill_22 : decode prog_5_method_15_code 22 = .ok (.iload_n 1, 1) := by decide +kernel
theorem d_Pan_fill_23 : decode prog_5_method_15_code 23 = .ok (.iaload, 1) := by decide +kernel
theorem d_Pan_fill_24 : decode prog_5_method_15_code 24 = .ok (.iload_n 3, 1) := by decide +kernel
theorem d_Pan_fill_25 : decode prog_5_method_15_code 25 = .ok (.iadd, 1) := by decide +kernel
theorem d_Pan_fill_26 : decode prog_5_method_15_code 26 = .ok (.invokestatic 58, 3) := by decide +kernel
theorem d_Pan_fill_29 : decode prog_5_method_15_code 29 = .ok (.iastore, 1) := by decide +kernel
theorem d_Pan_fill_30 : decode prog_5_method_15_code 30 = .ok (.return_, 1) := by decide +kernel
theorem d_Pan_takeSea_0 : decode prog_5_method_16_code 0 = .ok (.aload_n 0, 1) := by decide +kernel
theorem d_Pan_takeSea_1 : decode prog_5_method_16_code 1 = .ok (.getfield 28, 3) := by decide +kernel
theorem d_Pan_takeSea_4 : decode prog_5_method_16_code 4 = .ok (.iconst 0, 1) := by decide +kernel
theorem d_Pan_takeSea_5 : decode prog_5_method_16_code 5 = .ok (.invokevirtual 64, 3) := by decide +kernel
theorem d_Pan_takeSea_8 : decode prog_5_method_16_code 8 = .ok (.ifCond .ne 5, 3) := by decide +kernel
theorem d_Pan_takeSea_11 : decode prog_5_method_16_code 11 = .ok (.iconst (-1), 1) := by decide +kernel
theorem d_Pan_takeSea_12 : decode prog_5_method_16_code 12 = .ok (.ireturn, 1) := by decide +kernel
theorem d_Pan_takeSea_13 : decode prog_5_method_16_code 13 = .ok (.iload_n 1, 1) := by decide +kernel
theorem d_Pan_takeSea_14 : decode prog_5_method_16_code 14 = .ok (.iconst 1, 1) := by decide +kernel
theorem d_Pan_takeSea_15 : decode prog_5_method_16_code 15 = .ok (.bipush 9, 2) := by decide +kernel
theorem d_Pan_takeSea_17 : decode prog_5_method_16_code 17 = .ok (.invokestatic 67, 3) := by decide +kernel
theorem d_Pan_takeSea_20 : decode prog_5_method_16_code 20 = .ok (.ifCond .ne 6, 3) := by decide +kernel
theorem d_Pan_takeSea_23 : decode prog_5_method_16_code 23 = .ok (.bipush (-2), 2) := by decide +kernel
theorem d_Pan_takeSea_25 : decode prog_5_method_16_code 25 = .ok (.ireturn, 1) := by decide +kernel
theorem d_Pan_takeSea_26 : decode prog_5_method_16_code 26 = .ok (.aload_n 0, 1) := by decide +kernel
theorem d_Pan_takeSea_27 : decode prog_5_method_16_code 27 = .ok (.iconst 0, 1) := by decide +kernel
theorem d_Pan_takeSea_28 : decode prog_5_method_16_code 28 = .ok (.invokevirtual 71, 3) := by decide +kernel
theorem d_Pan_takeSea_31 : decode prog_5_method_16_code 31 = .ok (.iload_n 1, 1) := by decide +kernel
theorem d_Pan_takeSea_32 : decode prog_5_method_16_code 32 = .ok (.if_icmp .ge 6, 3) := by decide +kernel
theorem d_Pan_takeSea_35 : decode prog_5_method_16_code 35 = .ok (.bipush (-4), 2) := by decide +kernel
theorem d_Pan_takeSea_37 : decode prog_5_method_16_code 37 = .ok (.ireturn, 1) := by decide +kernel
theorem d_Pan_takeSea_38 : decode prog_5_method_16_code 38 = .ok (.aload_n 0, 1) := by decide +kernel
theorem d_Pan_takeSea_39 : decode prog_5_method_16_code 39 = .ok (.iconst 0, 1) := by decide +kernel
theorem d_Pan_takeSea_40 : decode prog_5_method_16_code 40 = .ok (.iload_n 1, 1) := by decide +kernel
theorem d_Pan_takeSea_41 : decode prog_5_method_16_code 41 = .ok (.iconst 2, 1) := by decide +kernel
theorem d_Pan_takeSea_42 : decode prog_5_method_16_code 42 = .ok (.iload_n 1, 1) := by decide +kernel
theorem d_Pan_takeSea_43 : decode prog_5_method_16_code 43 = .ok (.imul, 1) := by decide +kernel
theorem d_Pan_takeSea_44 : decode prog_5_method_16_code 44 = .ok (.invokevirtual 74, 3) := by decide +kernel
theorem d_Pan_takeSea_47 : decode prog_5_method_16_code 47 = .ok (.aload_n 0, 1) := by decide +kernel
theorem d_Pan_takeSea_48 : decode prog_5_method_16_code 48 = .ok (.getfield 9, 3) := by decide +kernel
theorem d_Pan_takeSea_51 : decode prog_5_method_16_code 51 = .ok (.iconst 0, 1) := by decide +kernel
theorem d_Pan_takeSea_52 : decode prog_5_method_16_code 52 = .ok (.iaload, 1) := by decide +kernel
theorem d_Pan_takeSea_53 : decode prog_5_method_16_code 53 = .ok (.ireturn, 1) := by decide +kernel
theorem d_Pan_letOn_0 : decode prog_5_method_17_code 0 = .ok (.aload_n 0, 1) := by decide +kernel
theorem d_Pan_letOn_1 : decode prog_5_method_17_code 1 = .ok (.getfield 28, 3) := by decide +kernel
theorem d_Pan_letOn_4 : decode prog_5_method_17_code 4 = .ok (.iload_n 1, 1) := by decide +kernel
theorem d_Pan_letOn_5 : decode prog_5_method_17_code 5 = .ok (.invokevirtual 78, 3) := by decide +kernel
theorem d_Pan_letOn_8 : decode prog_5_method_17_code 8 = .ok (.ifCond .ne 5, 3) := by decide +kernel
theorem d_Pan_letOn_11 : decode prog_5_method_17_code 11 = .ok (.iconst (-1), 1) := by decide +kernel
theorem d_Pan_letOn_12 : decode prog_5_method_17_code 12 = .ok (.ireturn, 1) := by decide +kernel
theorem d_Pan_letOn_13 : decode prog_5_method_17_code 13 = .ok (.iload_n 2, 1) := by decide +kernel
theorem d_Pan_letOn_14 : decode prog_5_method_17_code 14 = .ok (.iconst 1, 1) := by decide +kernel
theorem d_Pan_letOn_15 : decode prog_5_method_17_code 15 = .ok (.bipush 9, 2) := by decide +kernel
theorem d_Pan_letOn_17 : decode prog_5_method_17_code 17 = .ok (.invokestatic 67, 3) := by decide +kernel
theorem d_Pan_letOn_20 : decode prog_5_method_17_code 20 = .ok (.ifCond .ne 6, 3) := by decide +kernel
theorem d_Pan_letOn_23 : decode prog_5_method_17_code 23 = .ok (.bipush (-2), 2) := by decide +kernel
theorem d_Pan_letOn_25 : decode prog_5_method_17_code 25 = .ok (.ireturn, 1) := by decide +kernel
theorem d_Pan_letOn_26 : decode prog_5_method_17_code 26 = .ok (.aload_n 0, 1) := by decide +kernel
theorem d_Pan_letOn_27 : decode prog_5_method_17_code 27 = .ok (.getfield 9, 3) := by decide +kernel
theorem d_Pan_letOn_30 : decode prog_5_method_17_code 30 = .ok (.iload_n 1, 1) := by decide +kernel
theorem d_Pan_letOn_31 : decode prog_5_method_17_code 31 = .ok (.iaload, 1) := by decide +kernel
theorem d_Pan_letOn_32 : decode prog_5_method_17_code 32 = .ok (.iload_n 2, 1) := by decide +kernel
theorem d_Pan_letOn_33 : decode prog_5_method_17_code 33 = .ok (.if_icmp .ge 6, 3) := by decide +kernel
theorem d_Pan_letOn_36 : decode prog_5_method_17_code 36 = .ok (.bipush (-3), 2) := by decide +kernel
theorem d_Pan_letOn_38 : decode prog_5_method_17_code 38 = .ok (.ireturn, 1) := by decide +kernel
theorem d_Pan_letOn_39 : decode prog_5_method_17_code 39 = .ok (.aload_n 0, 1) := by decide +kernel
theorem d_Pan_letOn_40 : decode prog_5_method_17_code 40 = .ok (.iload_n 1, 1) := by decide +kernel
theorem d_Pan_letOn_41 : decode prog_5_method_17_code 41 = .ok (.iconst 1, 1) := by decide +kernel
theorem d_Pan_letOn_42 : decode prog_5_method_17_code 42 = .ok (.iadd, 1) := by decide +kernel
theorem d_Pan_letOn_43 : decode prog_5_method_17_code 43 = .ok (.invokevirtual 71, 3) := by decide +kernel
theorem d_Pan_letOn_46 : decode prog_5_method_17_code 46 = .ok (.iload_n 2, 1) := by decide +kernel
theorem d_Pan_letOn_47 : decode prog_5_method_17_code 47 = .ok (.if_icmp .ge 6, 3) := by decide +kernel
theorem d_Pan_letOn_50 : decode prog_5_method_17_code 50 = .ok (.bipush (-4), 2) := by decide +kernel
theorem d_Pan_letOn_52 : decode prog_5_method_17_code 52 = .ok (.ireturn, 1) := by decide +kernel
theorem d_Pan_letOn_53 : decode prog_5_method_17_code 53 = .ok (.aload_n 0, 1) := by decide +kernel
theorem d_Pan_letOn_54 : decode prog_5_method_17_code 54 = .ok (.iload_n 1, 1) := by decide +kernel
theorem d_Pan_letOn_55 : decode prog_5_method_17_code 55 = .ok (.iload_n 2, 1) := by decide +kernel
theorem d_Pan_letOn_56 : decode prog_5_method_17_code 56 = .ok (.invokevirtual 81, 3) := by decide +kernel
theorem d_Pan_letOn_59 : decode prog_5_method_17_code 59 = .ok (.istore_n 3, 1) := by decide +kernel
theorem d_Pan_letOn_60 : decode prog_5_method_17_code 60 = .ok (.aload_n 0, 1) := by decide +kernel
theorem d_Pan_letOn_61 : decode prog_5_method_17_code 61 = .ok (.iload_n 1, 1) := by decide +kernel
theorem d_Pan_letOn_62 : decode prog_5_method_17_code 62 = .ok (.iconst 1, 1) := by decide +kernel
theorem d_Pan_letOn_63 : decode prog_5_method_17_code 63 = .ok (.iadd, 1) := by decide +kernel
theorem d_Pan_letOn_64 : decode prog_5_method_17_code 64 = .ok (.iload_n 2, 1) := by decide +kernel
theorem d_Pan_letOn_65 : decode prog_5_method_17_code 65 = .ok (.iload_n 3, 1) := by decide +kernel
theorem d_Pan_letOn_66 : decode prog_5_method_17_code 66 = .ok (.invokevirtual 74, 3) := by decide +kernel
theorem d_Pan_letOn_69 : decode prog_5_method_17_code 69 = .ok (.iload_n 3, 1) := by decide +kernel
theorem d_Pan_letOn_70 : decode prog_5_method_17_code 70 = .ok (.ireturn, 1) := by decide +kernel
theorem d_Pan_turnGate_0 : decode prog_5_method_18_code 0 = .ok (.aload_n 0, 1) := by decide +kernel
theorem d_Pan_turnGate_1 : decode prog_5_method_18_code 1 = .ok (.getfield 28, 3) := by decide +kernel
theorem d_Pan_turnGate_4 : decode prog_5_method_18_code 4 = .ok (.iload_n 1, 1) := by decide +kernel
theorem d_Pan_turnGate_5 : decode prog_5_method_18_code 5 = .ok (.invokevirtual 78, 3) := by decide +kernel
theorem d_Pan_turnGate_8 : decode prog_5_method_18_code 8 = .ok (.ifCond .ne 5, 3) := by decide +kernel
theorem d_Pan_turnGate_11 : decode prog_5_method_18_code 11 = .ok (.iconst (-1), 1) := by decide +kernel
theorem d_Pan_turnGate_12 : decode prog_5_method_18_code 12 = .ok (.ireturn, 1) := by decide +kernel
theorem d_Pan_turnGate_13 : decode prog_5_method_18_code 13 = .ok (.aload_n 0, 1) := by decide +kernel
theorem d_Pan_turnGate_14 : decode prog_5_method_18_code 14 = .ok (.iload_n 1, 1) := by decide +kernel
theorem d_Pan_turnGate_15 : decode prog_5_method_18_code 15 = .ok (.aload_n 0, 1) := by decide +kernel
theorem d_Pan_turnGate_16 : decode prog_5_method_18_code 16 = .ok (.iload_n 1, 1) := by decide +kernel
theorem d_Pan_turnGate_17 : decode prog_5_method_18_code 17 = .ok (.invokevirtual 55, 3) := by decide +kernel
theorem d_Pan_turnGate_20 : decode prog_5_method_18_code 20 = .ok (.ifCond .ne 7, 3) := by decide +kernel
theorem d_Pan_turnGate_23 : decode prog_5_method_18_code 23 = .ok (.iconst 1, 1) := by decide +kernel
theorem d_Pan_turnGate_24 : decode prog_5_method_18_code 24 = .ok (.goto 4, 3) := by decide +kernel
theorem d_Pan_turnGate_27 : decode prog_5_method_18_code 27 = .ok (.iconst 0, 1) := by decide +kernel
theorem d_Pan_turnGate_28 : decode prog_5_method_18_code 28 = .ok (.invokevirtual 84, 3) := by decide +kernel
theorem d_Pan_turnGate_31 : decode prog_5_method_18_code 31 = .ok (.aload_n 0, 1) := by decide +kernel
theorem d_Pan_turnGate_32 : decode prog_5_method_18_code 32 = .ok (.iload_n 1, 1) := by decide +kernel
theorem d_Pan_turnGate_33 : decode prog_5_method_18_code 33 = .ok (.invokevirtual 55, 3) := by decide +kernel
theorem d_Pan_turnGate_36 : decode prog_5_method_18_code 36 = .ok (.ifCond .eq 7, 3) := by decide +kernel
theorem d_Pan_turnGate_39 : decode prog_5_method_18_code 39 = .ok (.iconst 1, 1) := by decide +kernel
theorem d_Pan_turnGate_40 : decode prog_5_method_18_code 40 = .ok (.goto 4, 3) := by decide +kernel
theorem d_Pan_turnGate_43 : decode prog_5_method_18_code 43 = .ok (.iconst 0, 1) := by decide +kernel
theorem d_Pan_turnGate_44 : decode prog_5_method_18_code 44 = .ok (.ireturn, 1) := by decide +kernel
theorem d_Pan_rakeUp_0 : decode prog_5_method_19_code 0 = .ok (.aload_n 0, 1) := by decide +kernel
theorem d_Pan_rakeUp_1 : decode prog_5_method_19_code 1 = .ok (.getfield 28, 3) := by decide +kernel
theorem d_Pan_rakeUp_4 : decode prog_5_method_19_code 4 = .ok (.iload_n 1, 1) := by decide +kernel
theorem d_Pan_rakeUp_5 : decode prog_5_method_19_code 5 = .ok (.invokevirtual 64, 3) := by decide +kernel
theorem d_Pan_rakeUp_8 : decode prog_5_method_19_code 8 = .ok (.ifCond .ne 5, 3) := by decide +kernel
theorem d_Pan_rakeUp_11 : decode prog_5_method_19_code 11 = .ok (.iconst (-1), 1) := by decide +kernel
theorem d_Pan_rakeUp_12 : decode prog_5_method_19_code 12 = .ok (.ireturn, 1) := by decide +kernel
theorem d_Pan_rakeUp_13 : decode prog_5_method_19_code 13 = .ok (.aload_n 0, 1) := by decide +kernel
theorem d_Pan_rakeUp_14 : decode prog_5_method_19_code 14 = .ok (.iload_n 1, 1) := by decide +kernel
theorem d_Pan_rakeUp_15 : decode prog_5_method_19_code 15 = .ok (.invokevirtual 51, 3) := by decide +kernel
theorem d_Pan_rakeUp_18 : decode prog_5_method_19_code 18 = .ok (.ifCond .ne 6, 3) := by decide +kernel
theorem d_Pan_rakeUp_21 : decode prog_5_method_19_code 21 = .ok (.bipush (-3), 2) := by decide +kernel
theorem d_Pan_rakeUp_23 : decode prog_5_method_19_code 23 = .ok (.ireturn, 1) := by decide +kernel
theorem d_Pan_rakeUp_24 : decode prog_5_method_19_code 24 = .ok (.aload_n 0, 1) := by decide +kernel
theorem d_Pan_rakeUp_25 : decode prog_5_method_19_code 25 = .ok (.iload_n 1, 1) := by decide +kernel
theorem d_Pan_rakeUp_26 : decode prog_5_method_19_code 26 = .ok (.invokevirtual 48, 3) := by decide +kernel
theorem d_Pan_rakeUp_29 : decode prog_5_method_19_code 29 = .ok (.istore_n 2, 1) := by decide +kernel
theorem d_Pan_rakeUp_30 : decode prog_5_method_19_code 30 = .ok (.aload_n 0, 1) := by decide +kernel
theorem d_Pan_rakeUp_31 : decode prog_5_method_19_code 31 = .ok (.getfield 15, 3) := by decide +kernel
theorem d_Pan_rakeUp_34 : decode prog_5_method_19_code 34 = .ok (.iload_n 1, 1) := by decide +kernel
theorem d_Pan_rakeUp_35 : decode prog_5_method_19_code 35 = .ok (.dup2, 1) := by decide +kernel
theorem d_Pan_rakeUp_36 : decode prog_5_method_19_code 36 = .ok (.iaload, 1) := by decide +kernel
theorem d_Pan_rakeUp_37 : decode prog_5_method_19_code 37 = .ok (.iload_n 2, 1) := by decide +kernel
theorem d_Pan_rakeUp_38 : decode prog_5_method_19_code 38 = .ok (.isub, 1) := by decide +kernel
theorem d_Pan_rakeUp_39 : decode prog_5_method_19_code 39 = .ok (.iastore, 1) := by decide +kernel
theorem d_Pan_rakeUp_40 : decode prog_5_method_19_code 40 = .ok (.aload_n 0, 1) := by decide +kernel
theorem d_Pan_rakeUp_41 : decode prog_5_method_19_code 41 = .ok (.sipush 9999, 3) := by decide +kernel
theorem d_Pan_rakeUp_44 : decode prog_5_method_19_code 44 = .ok (.aload_n 0, 1) := by decide +kernel
theorem d_Pan_rakeUp_45 : decode prog_5_method_19_code 45 = .ok (.getfield 22, 3) := by decide +kernel
theorem d_Pan_rakeUp_48 : decode prog_5_method_19_code 48 = .ok (.iload_n 2, 1) := by decide +kernel
theorem d_Pan_rakeUp_49 : decode prog_5_method_19_code 49 = .ok (.iadd, 1) := by decide +kernel
theorem d_Pan_rakeUp_50 : decode prog_5_method_19_code 50 = .ok (.invokestatic 58, 3) := by decide +kernel
theorem d_Pan_rakeUp_53 : decode prog_5_method_19_code 53 = .ok (.putfield 22, 3) := by decide +kernel
theorem d_Pan_rakeUp_56 : decode prog_5_method_19_code 56 = .ok (.iload_n 2, 1) := by decide +kernel
theorem d_Pan_rakeUp_57 : decode prog_5_method_19_code 57 = .ok (.ireturn, 1) := by decide +kernel
theorem d_Pan_rain_0 : decode prog_5_method_21_code 0 = .ok (.iconst 0, 1) := by decide +kernel
theorem d_Pan_rain_1 : decode prog_5_method_21_code 1 = .ok (.istore_n 2, 1) := by decide +kernel
theorem d_Pan_rain_2 : decode prog_5_method_21_code 2 = .ok (.iload_n 2, 1) := by decide +kernel
theorem d_Pan_rain_3 : decode prog_5_method_21_code 3 = .ok (.aload_n 0, 1) := by decide +kernel
theorem d_Pan_rain_4 : decode prog_5_method_21_code 4 = .ok (.getfield 28, 3) := by decide +kernel
theorem d_Pan_rain_7 : decode prog_5_method_21_code 7 = .ok (.getfield 45, 3) := by decide +kernel
theorem d_Pan_rain_10 : decode prog_5_method_21_code 10 = .ok (.if_icmp .ge 27, 3) := by decide +kernel
theorem d_Pan_rain_13 : decode prog_5_method_21_code 13 = .ok (.aload_n 0, 1) := by decide +kernel
theorem d_Pan_rain_14 : decode prog_5_method_21_code 14 = .ok (.getfield 9, 3) := by decide +kernel
theorem d_Pan_rain_17 : decode prog_5_method_21_code 17 = .ok (.iload_n 2, 1) := by decide +kernel
theorem d_Pan_rain_18 : decode prog_5_method_21_code 18 = .ok (.dup2, 1) := by decide +kernel
theorem d_Pan_rain_19 : decode prog_5_method_21_code 19 = .ok (.iaload, 1) := by decide +kernel
theorem d_Pan_rain_20 : decode prog_5_method_21_code 20 = .ok (.iload_n 1, 1) := by decide +kernel
theorem d_Pan_rain_21 : decode prog_5_method_21_code 21 = .ok (.aload_n 0, 1) := by decide +kernel
theorem d_Pan_rain_22 : decode prog_5_method_21_code 22 = .ok (.iload_n 2, 1) := by decide +kernel
theorem d_Pan_rain_23 : decode prog_5_method_21_code 23 = .ok (.invokevirtual 71, 3) := by decide +kernel
theorem d_Pan_rain_26 : decode prog_5_method_21_code 26 = .ok (.invokestatic 58, 3) := by decide +kernel
theorem d_Pan_rain_29 : decode prog_5_method_21_code 29 = .ok (.iadd, 1) := by decide +kernel
theorem d_Pan_rain_30 : decode prog_5_method_21_code 30 = .ok (.iastore, 1) := by decide +kernel
theorem d_Pan_rain_31 : decode prog_5_method_21_code 31 = .ok (.iinc 2 1, 3) := by decide +kernel
theorem d_Pan_rain_34 : decode prog_5_method_21_code 34 = .ok (.goto (-32), 3) := by decide +kernel
theorem d_Pan_rain_37 : decode prog_5_method_21_code 37 = .ok (.return_, 1) := by decide +kernel
theorem d_Mth_max_0 : decode prog_10_method_65_code 0 = .ok (.iload_n 0, 1) := by decide +kernel
theorem d_Mth_max_1 : decode prog_10_method_65_code 1 = .ok (.iload_n 1, 1) := by decide +kernel
theorem d_Mth_max_2 : decode prog_10_method_65_code 2 = .ok (.if_icmp .lt 7, 3) := by decide +kernel
theorem d_Mth_max_5 : decode prog_10_method_65_code 5 = .ok (.iload_n 0, 1) := by decide +kernel
theorem d_Mth_max_6 : decode prog_10_method_65_code 6 = .ok (.goto 4, 3) := by decide +kernel
theorem d_Mth_max_9 : decode prog_10_method_65_code 9 = .ok (.iload_n 1, 1) := by decide +kernel
theorem d_Mth_max_10 : decode prog_10_method_65_code 10 = .ok (.ireturn, 1) := by decide +kernel
theorem d_Pan_shine_0 : decode prog_5_method_22_code 0 = .ok (.iconst 0, 1) := by decide +kernel
theorem d_Pan_shine_1 : decode prog_5_method_22_code 1 = .ok (.istore_n 2, 1) := by decide +kernel
theorem d_Pan_shine_2 : decode prog_5_method_22_code 2 = .ok (.iload_n 2, 1) := by decide +kernel
theorem d_Pan_shine_3 : decode prog_5_method_22_code 3 = .ok (.aload_n 0, 1) := by decide +kernel
theorem d_Pan_shine_4 : decode prog_5_method_22_code 4 = .ok (.getfield 28, 3) := by decide +kernel
theorem d_Pan_shine_7 : decode prog_5_method_22_code 7 = .ok (.getfield 45, 3) := by decide +kernel
theorem d_Pan_shine_10 : decode prog_5_method_22_code 10 = .ok (.if_icmp .ge 48, 3) := by decide +kernel
theorem d_Pan_shine_13 : decode prog_5_method_22_code 13 = .ok (.aload_n 0, 1) := by decide +kernel
theorem d_Pan_shine_14 : decode prog_5_method_22_code 14 = .ok (.getfield 28, 3) := by decide +kernel
theorem d_Pan_shine_17 : decode prog_5_method_22_code 17 = .ok (.getfield 95, 3) := by decide +kernel
theorem d_Pan_shine_20 : decode prog_5_method_22_code 20 = .ok (.iload_n 2, 1) := by decide +kernel
theorem d_Pan_shine_21 : decode prog_5_method_22_code 21 = .ok (.iaload, 1) := by decide +kernel
theorem d_Pan_shine_22 : decode prog_5_method_22_code 22 = .ok (.iconst 2, 1) := by decide +kernel
theorem d_Pan_shine_23 : decode prog_5_method_22_code 23 = .ok (.if_icmp .ne 9, 3) := by decide +kernel
theorem d_Pan_shine_26 : decode prog_5_method_22_code 26 = .ok (.iload_n 1, 1) := by decide +kernel
theorem d_Pan_shine_27 : decode prog_5_method_22_code 27 = .ok (.iconst 1, 1) := by decide +kernel
theorem d_Pan_shine_28 : decode prog_5_method_22_code 28 = .ok (.iadd, 1) := by decide +kernel
theorem d_Pan_shine_29 : decode prog_5_method_22_code 29 = .ok (.goto 4, 3) := by decide +kernel
theorem d_Pan_shine_32 : decode prog_5_method_22_code 32 = .ok (.iload_n 1, 1) := by decide +kernel
theorem d_Pan_shine_33 : decode prog_5_method_22_code 33 = .ok (.istore_n 3, 1) := by decide +kernel
theorem d_Pan_shine_34 : decode prog_5_method_22_code 34 = .ok (.aload_n 0, 1) := by decide +kernel
theorem d_Pan_shine_35 : decode prog_5_method_22_code 35 = .ok (.getfield 9, 3) := by decide +kernel
theorem d_Pan_shine_38 : decode prog_5_method_22_code 38 = .ok (.iload_n 2, 1) := by decide +kernel
theorem d_Pan_shine_39 : decode prog_5_method_22_code 39 = .ok (.iconst 0, 1) := by decide +kernel
theorem d_Pan_shine_40 : decode prog_5_method_22_code 40 = .ok (.aload_n 0, 1) := by decide +kernel
theorem d_Pan_shine_41 : decode prog_5_method_22_code 41 = .ok (.getfield 9, 3) := by decide +kernel
theorem d_Pan_shine_44 : decode prog_5_method_22_code 44 = .ok (.iload_n 2, 1) := by decide +kernel
theorem d_Pan_shine_45 : decode prog_5_method_22_code 45 = .ok (.iaload, 1) := by decide +kernel
theorem d_Pan_shine_46 : decode prog_5_method_22_code 46 = .ok (.iload_n 3, 1) := by decide +kernel
theorem d_Pan_shine_47 : decode prog_5_method_22_code 47 = .ok (.isub, 1) := by decide +kernel
theorem d_Pan_shine_48 : decode prog_5_method_22_code 48 = .ok (.invokestatic 107, 3) := by decide +kernel
theorem d_Pan_shine_51 : decode prog_5_method_22_code 51 = .ok (.iastore, 1) := by decide +kernel
theorem d_Pan_shine_52 : decode prog_5_method_22_code 52 = .ok (.iinc 2 1, 3) := by decide +kernel
theorem d_Pan_shine_55 : decode prog_5_method_22_code 55 = .ok (.goto (-53), 3) := by decide +kernel
theorem d_Pan_shine_58 : decode prog_5_method_22_code 58 = .ok (.return_, 1) := by decide +kernel
theorem d_Pan_passDay_0 : decode prog_5_method_20_code 0 = .ok (.iconst 0, 1) := by decide +kernel
theorem d_Pan_passDay_1 : decode prog_5_method_20_code 1 = .ok (.istore_n 2, 1) := by decide +kernel
theorem d_Pan_passDay_2 : decode prog_5_method_20_code 2 = .ok (.iload_n 2, 1) := by decide +kernel
theorem d_Pan_passDay_3 : decode prog_5_method_20_code 3 = .ok (.aload_n 0, 1) := by decide +kernel
theorem d_Pan_passDay_4 : decode prog_5_method_20_code 4 = .ok (.getfield 28, 3) := by decide +kernel
theorem d_Pan_passDay_7 : decode prog_5_method_20_code 7 = .ok (.invokevirtual 88, 3) := by decide +kernel
theorem d_Pan_passDay_10 : decode prog_5_method_20_code 10 = .ok (.if_icmp .ge 24, 3) := by decide +kernel
theorem d_Pan_passDay_13 : decode prog_5_method_20_code 13 = .ok (.aload_n 0, 1) := by decide +kernel
theorem d_Pan_passDay_14 : decode prog_5_method_20_code 14 = .ok (.iload_n 2, 1) := by decide +kernel
theorem d_Pan_passDay_15 : decode prog_5_method_20_code 15 = .ok (.invokevirtual 55, 3) := by decide +kernel
theorem d_Pan_passDay_18 : decode prog_5_method_20_code 18 = .ok (.ifCond .eq 10, 3) := by decide +kernel
theorem d_Pan_passDay_21 : decode prog_5_method_20_code 21 = .ok (.aload_n 0, 1) := by decide +kernel
theorem d_Pan_passDay_22 : decode prog_5_method_20_code 22 = .ok (.iload_n 2, 1) := by decide +kernel
theorem d_Pan_passDay_23 : decode prog_5_method_20_code 23 = .ok (.iconst 1, 1) := by decide +kernel
theorem d_Pan_passDay_24 : decode prog_5_method_20_code 24 = .ok (.invokevirtual 92, 3) := by decide +kernel
theorem d_Pan_passDay_27 : decode prog_5_method_20_code 27 = .ok (.pop, 1) := by decide +kernel
theorem d_Pan_passDay_28 : decode prog_5_method_20_code 28 = .ok (.iinc 2 1, 3) := by decide +kernel
theorem d_Pan_passDay_31 : decode prog_5_method_20_code 31 = .ok (.goto (-29), 3) := by decide +kernel
theorem d_Pan_passDay_34 : decode prog_5_method_20_code 34 = .ok (.iconst 0, 1) := by decide +kernel
theorem d_Pan_passDay_35 : decode prog_5_method_20_code 35 = .ok (.istore_n 2, 1) := by decide +kernel
theorem d_Pan_passDay_36 : decode prog_5_method_20_code 36 = .ok (.iload_n 2, 1) := by decide +kernel
theorem d_Pan_passDay_37 : decode prog_5_method_20_code 37 = .ok (.aload_n 0, 1) := by decide +kernel
theorem d_Pan_passDay_38 : decode prog_5_method_20_code 38 = .ok (.getfield 28, 3) := by decide +kernel
theorem d_Pan_passDay_41 : decode prog_5_method_20_code 41 = .ok (.getfield 45, 3) := by decide +kernel
theorem d_Pan_passDay_44 : decode prog_5_method_20_code 44 = .ok (.if_icmp .ge 29, 3) := by decide +kernel
theorem d_Pan_passDay_47 : decode prog_5_method_20_code 47 = .ok (.aload_n 0, 1) := by decide +kernel
theorem d_Pan_passDay_48 : decode prog_5_method_20_code 48 = .ok (.getfield 28, 3) := by decide +kernel
theorem d_Pan_passDay_51 : decode prog_5_method_20_code 51 = .ok (.getfield 95, 3) := by decide +kernel
theorem d_Pan_passDay_54 : decode prog_5_method_20_code 54 = .ok (.iload_n 2, 1) := by decide +kernel
theorem d_Pan_passDay_55 : decode prog_5_method_20_code 55 = .ok (.iaload, 1) := by decide +kernel
theorem d_Pan_passDay_56 : decode prog_5_method_20_code 56 = .ok (.iconst 3, 1) := by decide +kernel
theorem d_Pan_passDay_57 : decode prog_5_method_20_code 57 = .ok (.if_icmp .ne 10, 3) := by decide +kernel
theorem d_Pan_passDay_60 : decode prog_5_method_20_code 60 = .ok (.aload_n 0, 1) := by decide +kernel
theorem d_Pan_passDay_61 : decode prog_5_method_20_code 61 = .ok (.iload_n 2, 1) := by decide +kernel
theorem d_Pan_passDay_62 : decode prog_5_method_20_code 62 = .ok (.iconst 1, 1) := by decide +kernel
theorem d_Pan_passDay_63 : decode prog_5_method_20_code 63 = .ok (.invokevirtual 81, 3) := by decide +kernel
theorem d_Pan_passDay_66 : decode prog_5_method_20_code 66 = .ok (.pop, 1) := by decide +kernel
theorem d_Pan_passDay_67 : decode prog_5_method_20_code 67 = .ok (.iinc 2 1, 3) := by decide +kernel
theorem d_Pan_passDay_70 : decode prog_5_method_20_code 70 = .ok (.goto (-34), 3) := by decide +kernel
theorem d_Pan_passDay_73 : decode prog_5_method_20_code 73 = .ok (.aload_n 0, 1) := by decide +kernel
theorem d_Pan_passDay_74 : decode prog_5_method_20_code 74 = .ok (.getfield 28, 3) := by decide +kernel
theorem d_Pan_passDay_77 : decode prog_5_method_20_code 77 = .ok (.aload_n 0, 1) := by decide +kernel
theorem d_Pan_passDay_78 : decode prog_5_method_20_code 78 = .ok (.getfield 25, 3) := by decide +kernel
theorem d_Pan_passDay_81 : decode prog_5_method_20_code 81 = .ok (.invokevirtual 98, 3) := by decide +kernel
theorem d_Pan_passDay_84 : decode prog_5_method_20_code 84 = .ok (.istore_n 2, 1) := by decide +kernel
theorem d_Pan_passDay_85 : decode prog_5_method_20_code 85 = .ok (.iload_n 2, 1) := by decide +kernel
theorem d_Pan_passDay_86 : decode prog_5_method_20_code 86 = .ok (.ifCond .ge 12, 3) := by decide +kernel
theorem d_Pan_passDay_89 : decode prog_5_method_20_code 89 = .ok (.aload_n 0, 1) := by decide +kernel
theorem d_Pan_passDay_90 : decode prog_5_method_20_code 90 = .ok (.iload_n 2, 1) := by decide +kernel
theorem d_Pan_passDay_91 : decode prog_5_method_20_code 91 = .ok (.ineg, 1) := by decide +kernel
theorem d_Pan_passDay_92 : decode prog_5_method_20_code 92 = .ok (.invokevirtual 101, 3) := by decide +kernel
theorem d_Pan_passDay_95 : decode prog_5_method_20_code 95 = .ok (.goto 16, 3) := by decide +kernel
theorem d_Pan_passDay_98 : decode prog_5_method_20_code 98 = .ok (.iload_n 2, 1) := by decide +kernel
theorem d_Pan_passDay_99 : decode prog_5_method_20_code 99 = .ok (.ifCond .le 12, 3) := by decide +kernel
theorem d_Pan_passDay_102 : decode prog_5_method_20_code 102 = .ok (.iload_n 1, 1) := by decide +kernel
theorem d_Pan_passDay_103 : decode prog_5_method_20_code 103 = .ok (.ifCond .ne 8, 3) := by decide +kernel
theorem d_Pan_passDay_106 : decode prog_5_method_20_code 106 = .ok (.aload_n 0, 1) := by decide +kernel
theorem d_Pan_passDay_107 : decode prog_5_method_20_code 107 = .ok (.iload_n 2, 1) := by decide +kernel
theorem d_Pan_passDay_108 : decode prog_5_method_20_code 108 = .ok (.invokevirtual 104, 3) := by decide +kernel
theorem d_Pan_passDay_111 : decode prog_5_method_20_code 111 = .ok (.aload_n 0, 1) := by decide +kernel
theorem d_Pan_passDay_112 : decode prog_5_method_20_code 112 = .ok (.dup, 1) := by decide +kernel
theorem d_Pan_passDay_113 : decode prog_5_method_20_code 113 = .ok (.getfield 25, 3) := by decide +kernel
theorem d_Pan_passDay_116 : decode prog_5_method_20_code 116 = .ok (.iconst 1, 1) := by decide +kernel
theorem d_Pan_passDay_117 : decode prog_5_method_20_code 117 = .ok (.iadd, 1) := by decide +kernel
theorem d_Pan_passDay_118 : decode prog_5_method_20_code 118 = .ok (.putfield 25, 3) := by decide +kernel
theorem d_Pan_passDay_121 : decode prog_5_method_20_code 121 = .ok (.return_, 1) := by decide +kernel
theorem d_Pan_passDays_0 : decode prog_5_method_23_code 0 = .ok (.iconst 0, 1) := by decide +kernel
theorem d_Pan_passDays_1 : decode prog_5_method_23_code 1 = .ok (.istore_n 2, 1) := by decide +kernel
theorem d_Pan_passDays_2 : decode prog_5_method_23_code 2 = .ok (.iload_n 2, 1) := by decide +kernel
theorem d_Pan_passDays_3 : decode prog_5_method_23_code 3 = .ok (.iload_n 1, 1) := by decide +kernel
theorem d_Pan_passDays_4 : decode prog_5_method_23_code 4 = .ok (.if_icmp .ge 14, 3) := by decide +kernel
theorem d_Pan_passDays_7 : decode prog_5_method_23_code 7 = .ok (.aload_n 0, 1) := by decide +kernel
theorem d_Pan_passDays_8 : decode prog_5_method_23_code 8 = .ok (.iconst 0, 1) := by decide +kernel
theorem d_Pan_passDays_9 : decode prog_5_method_23_code 9 = .ok (.invokevirtual 110, 3) := by decide +kernel
theorem d_Pan_passDays_12 : decode prog_5_method_23_code 12 = .ok (.iinc 2 1, 3) := by decide +kernel
theorem d_Pan_passDays_15 : decode prog_5_method_23_code 15 = .ok (.goto (-13), 3) := by decide +kernel
theorem d_Pan_passDays_18 : decode prog_5_method_23_code 18 = .ok (.return_, 1) := by decide +kernel
theorem d_Pan_crustBehind_0 : decode prog_5_method_24_code 0 = .ok (.aload_n 0, 1) := by decide +kernel
theorem d_Pan_crustBehind_1 : decode prog_5_method_24_code 1 = .ok (.iload_n 1, 1) := by decide +kernel
theorem d_Pan_crustBehind_2 : decode prog_5_method_24_code 2 = .ok (.invokevirtual 114, 3) := by decide +kernel
theorem d_Pan_crustBehind_5 : decode prog_5_method_24_code 5 = .ok (.aload_n 0, 1) := by decide +kernel
theorem d_Pan_crustBehind_6 : decode prog_5_method_24_code 6 = .ok (.invokevirtual 117, 3) := by decide +kernel
theorem d_Pan_crustBehind_9 : decode prog_5_method_24_code 9 = .ok (.ireturn, 1) := by decide +kernel
theorem d_Pan_isDone_0 : decode prog_5_method_25_code 0 = .ok (.iload_n 2, 1) := by decide +kernel
theorem d_Pan_isDone_1 : decode prog_5_method_25_code 1 = .ok (.ifCond .ne 7, 3) := by decide +kernel
theorem d_Pan_isDone_4 : decode prog_5_method_25_code 4 = .ok (.iconst 1, 1) := by decide +kernel
theorem d_Pan_isDone_5 : decode prog_5_method_25_code 5 = .ok (.goto 4, 3) := by decide +kernel
theorem d_Pan_isDone_8 : decode prog_5_method_25_code 8 = .ok (.iconst 0, 1) := by decide +kernel
theorem d_Pan_isDone_9 : decode prog_5_method_25_code 9 = .ok (.istore 4, 2) := by decide +kernel
theorem d_Pan_isDone_11 : decode prog_5_method_25_code 11 = .ok (.iload_n 1, 1) := by decide +kernel
theorem d_Pan_isDone_12 : decode prog_5_method_25_code 12 = .ok (.tableswitch 190 0 6 #[44, 62, 81, 96, 115, 134, 161], 44) := by decide +kernel
theorem d_Pan_isDone_56 : decode prog_5_method_25_code 56 = .ok (.iload 4, 2) := by decide +kernel
theorem d_Pan_isDone_58 : decode prog_5_method_25_code 58 = .ok (.ifCond .eq 7, 3) := by decide +kernel
theorem d_Pan_isDone_61 : decode prog_5_method_25_code 61 = .ok (.iload_n 3, 1) := by decide +kernel
theorem d_Pan_isDone_62 : decode prog_5_method_25_code 62 = .ok (.ifCond .eq 5, 3) := by decide +kernel
theorem d_Pan_isDone_65 : decode prog_5_method_25_code 65 = .ok (.iconst 0, 1) := by decide +kernel
theorem d_Pan_isDone_66 : decode prog_5_method_25_code 66 = .ok (.ireturn, 1) := by decide +kernel
theorem d_Pan_isDone_67 : decode prog_5_method_25_code 67 = .ok (.aload_n 0, 1) := by decide +kernel
theorem d_Pan_isDone_68 : decode prog_5_method_25_code 68 = .ok (.iconst 0, 1) := by decide +kernel
theorem d_Pan_isDone_69 : decode prog_5_method_25_code 69 = .ok (.invokevirtual 110, 3) := by decide +kernel
theorem d_Pan_isDone_72 : decode prog_5_method_25_code 72 = .ok (.iconst 1, 1) := by decide +kernel
theorem d_Pan_isDone_73 : decode prog_5_method_25_code 73 = .ok (.ireturn, 1) := by decide +kernel
theorem d_Pan_isDone_74 : decode prog_5_method_25_code 74 = .ok (.iload 4, 2) := by decide +kernel
theorem d_Pan_isDone_76 : decode prog_5_method_25_code 76 = .ok (.ifCond .eq 15, 3) := by decide +kernel
theorem d_Pan_isDone_79 : decode prog_5_method_25_code 79 = .ok (.aload_n 0, 1) := by decide +kernel
theorem d_Pan_isDone_80 : decode prog_5_method_25_code 80 = .ok (.iload_n 3, 1) := by decide +kernel
theorem d_Pan_isDone_81 : decode prog_5_method_25_code 81 = .ok (.invokevirtual 120, 3) := by decide +kernel
theorem d_Pan_isDone_84 : decode prog_5_method_25_code 84 = .ok (.ifCond .lt 7, 3) := by decide +kernel
theorem d_Pan_isDone_87 : decode prog_5_method_25_code 87 = .ok (.iconst 1, 1) := by decide +kernel
theorem d_Pan_isDone_88 : decode prog_5_method_25_code 88 = .ok (.goto 4, 3) := by decide +kernel
theorem d_Pan_isDone_91 : decode prog_5_method_25_code 91 = .ok (.iconst 0, 1) := by decide +kernel
theorem d_Pan_isDone_92 : decode prog_5_method_25_code 92 = .ok (.ireturn, 1) := by decide +kernel
theorem d_Pan_isDone_93 : decode prog_5_method_25_code 93 = .ok (.aload_n 0, 1) := by decide +kernel
theorem d_Pan_isDone_94 : decode prog_5_method_25_code 94 = .ok (.iload_n 2, 1) := by decide +kernel
theorem d_Pan_isDone_95 : decode prog_5_method_25_code 95 = .ok (.iload_n 3, 1) := by decide +kernel
theorem d_Pan_isDone_96 : decode prog_5_method_25_code 96 = .ok (.invokevirtual 92, 3) := by decide +kernel
theorem d_Pan_isDone_99 : decode prog_5_method_25_code 99 = .ok (.ifCond .lt 7, 3) := by decide +kernel
theorem d_Pan_isDone_102 : decode prog_5_method_25_code 102 = .ok (.iconst 1, 1) := by decide +kernel
theorem d_Pan_isDone_103 : decode prog_5_method_25_code 103 = .ok (.goto 4, 3) := by decide +kernel
theorem d_Pan_isDone_106 : decode prog_5_method_25_code 106 = .ok (.iconst 0, 1) := by decide +kernel
theorem d_Pan_isDone_107 : decode prog_5_method_25_code 107 = .ok (.ireturn, 1) := by decide +kernel
theorem d_Pan_isDone_108 : decode prog_5_method_25_code 108 = .ok (.iload 4, 2) := by decide +kernel
theorem d_Pan_isDone_110 : decode prog_5_method_25_code 110 = .ok (.ifCond .eq 15, 3) := by decide +kernel
theorem d_Pan_isDone_113 : decode prog_5_method_25_code 113 = .ok (.aload_n 0, 1) := by decide +kernel
theorem d_Pan_isDone_114 : decode prog_5_method_25_code 114 = .ok (.iload_n 3, 1) := by decide +kernel
theorem d_Pan_isDone_115 : decode prog_5_method_25_code 115 = .ok (.invokevirtual 123, 3) := by decide +kernel
theorem d_Pan_isDone_118 : decode prog_5_method_25_code 118 = .ok (.ifCond .lt 7, 3) := by decide +kernel
theorem d_Pan_isDone_121 : decode prog_5_method_25_code 121 = .ok (.iconst 1, 1) := by decide +kernel
theorem d_Pan_isDone_122 : decode prog_5_method_25_code 122 = .ok (.goto 4, 3) := by decide +kernel
theorem d_Pan_isDone_125 : decode prog_5_method_25_code 125 = .ok (.iconst 0, 1) := by decide +kernel
theorem d_Pan_isDone_126 : decode prog_5_method_25_code 126 = .ok (.ireturn, 1) := by decide +kernel
theorem d_Pan_isDone_127 : decode prog_5_method_25_code 127 = .ok (.iload 4, 2) := by decide +kernel
theorem d_Pan_isDone_129 : decode prog_5_method_25_code 129 = .ok (.ifCond .eq 15, 3) := by decide +kernel
theorem d_Pan_isDone_132 : decode prog_5_method_25_code 132 = .ok (.aload_n 0, 1) := by decide +kernel
theorem d_Pan_isDone_133 : decode prog_5_method_25_code 133 = .ok (.iload_n 3, 1) := by decide +kernel
theorem d_Pan_isDone_134 : decode prog_5_method_25_code 134 = .ok (.invokevirtual 126, 3) := by decide +kernel
theorem d_Pan_isDone_137 : decode prog_5_method_25_code 137 = .ok (.ifCond .lt 7, 3) := by decide +kernel
theorem d_Pan_isDone_140 : decode prog_5_method_25_code 140 = .ok (.iconst 1, 1) := by decide +kernel
theorem d_Pan_isDone_141 : decode prog_5_method_25_code 141 = .ok (.goto 4, 3) := by decide +kernel
theorem d_Pan_isDone_144 : decode prog_5_method_25_code 144 = .ok (.iconst 0, 1) := by decide +kernel
theorem d_Pan_isDone_145 : decode prog_5_method_25_code 145 = .ok (.ireturn, 1) := by decide +kernel
theorem d_Pan_isDone_146 : decode prog_5_method_25_code 146 = .ok (.aload_n 0, 1) := by decide +kernel
theorem d_Pan_isDone_147 : decode prog_5_method_25_code 147 = .ok (.getfield 28, 3) := by decide +kernel
theorem d_Pan_isDone_150 : decode prog_5_method_25_code 150 = .ok (.iload_n 2, 1) := by decide +kernel
theorem d_Pan_isDone_151 : decode prog_5_method_25_code 151 = .ok (.invokevirtual 64, 3) := by decide +kernel
theorem d_Pan_isDone_154 : decode prog_5_method_25_code 154 = .ok (.ifCond .eq 17, 3) := by decide +kernel
theorem d_Pan_isDone_157 : decode prog_5_method_25_code 157 = .ok (.aload_n 0, 1) := by decide +kernel
theorem d_Pan_isDone_158 : decode prog_5_method_25_code 158 = .ok (.getfield 9, 3) := by decide +kernel
theorem d_Pan_isDone_161 : decode prog_5_method_25_code 161 = .ok (.iload_n 2, 1) := by decide +kernel
theorem d_Pan_isDone_162 : decode prog_5_method_25_code 162 = .ok (.iaload, 1) := by decide +kernel
theorem d_Pan_isDone_163 : decode prog_5_method_25_code 163 = .ok (.iload_n 3, 1) := by decide +kernel
theorem d_Pan_isDone_164 : decode prog_5_method_25_code 164 = .ok (.if_icmp .lt 7, 3) := by decide +kernel
theorem d_Pan_isDone_167 : decode prog_5_method_25_code 167 = .ok (.iconst 1, 1) := by decide +kernel
theorem d_Pan_isDone_168 : decode prog_5_method_25_code 168 = .ok (.goto 4, 3) := by decide +kernel
theorem d_Pan_isDone_171 : decode prog_5_method_25_code 171 = .ok (.iconst 0, 1) := by decide +kernel
theorem d_Pan_isDone_172 : decode prog_5_method_25_code 172 = .ok (.ireturn, 1) := by decide +kernel
theorem d_Pan_isDone_173 : decode prog_5_method_25_code 173 = .ok (.aload_n 0, 1) := by decide +kernel
theorem d_Pan_isDone_174 : decode prog_5_method_25_code 174 = .ok (.getfield 28, 3) := by decide +kernel
theorem d_Pan_isDone_177 : decode prog_5_method_25_code 177 = .ok (.iload_n 2, 1) := by decide +kernel
theorem d_Pan_isDone_178 : decode prog_5_method_25_code 178 = .ok (.invokevirtual 64, 3) := by decide +kernel
theorem d_Pan_isDone_181 : decode prog_5_method_25_code 181 = .ok (.ifCond .eq 19, 3) := by decide +kernel
theorem d_Pan_isDone_184 : decode prog_5_method_25_code 184 = .ok (.aload_n 0, 1) := by decide +kernel
theorem d_Pan_isDone_185 : decode prog_5_method_25_code 185 = .ok (.iload_n 2, 1) := by decide +kernel
theorem d_Pan_isDone_186 : decode prog_5_method_25_code 186 = .ok (.invokevirtual 48, 3) := by decide +kernel
theorem d_Pan_isDone_189 : decode prog_5_method_25_code 189 = .ok (.bipush 10, 2) := by decide +kernel
theorem d_Pan_isDone_191 : decode prog_5_method_25_code 191 = .ok (.iload_n 3, 1) := by decide +kernel
theorem d_Pan_isDone_192 : decode prog_5_method_25_code 192 = .ok (.imul, 1) := by decide +kernel
theorem d_Pan_isDone_193 : decode prog_5_method_25_code 193 = .ok (.if_icmp .lt 7, 3) := by decide +kernel
theorem d_Pan_isDone_196 : decode prog_5_method_25_code 196 = .ok (.iconst 1, 1) := by decide +kernel
theorem d_Pan_isDone_197 : decode prog_5_method_25_code 197 = .ok (.goto 4, 3) := by decide +kernel
theorem d_Pan_isDone_200 : decode prog_5_method_25_code 200 = .ok (.iconst 0, 1) := by decide +kernel
theorem d_Pan_isDone_201 : decode prog_5_method_25_code 201 = .ok (.ireturn, 1) := by decide +kernel
theorem d_Pan_isDone_202 : decode prog_5_method_25_code 202 = .ok (.iconst 0, 1) := by decide +kernel
theorem d_Pan_isDone_203 : decode prog_5_method_25_code 203 = .ok (.ireturn, 1) := by decide +kernel
theorem d_Pan_befall_0 : decode prog_5_method_26_code 0 = .ok (.iload_n 1, 1) := by decide +kernel
theorem d_Pan_befall_1 : decode prog_5_method_26_code 1 = .ok (.iconst 5, 1) := by decide +kernel
theorem d_Pan_befall_2 : decode prog_5_method_26_code 2 = .ok (.if_icmp .ge 12, 3) := by decide +kernel
theorem d_Pan_befall_5 : decode prog_5_method_26_code 5 = .ok (.aload_n 0, 1) := by decide +kernel
theorem d_Pan_befall_6 : decode prog_5_method_26_code 6 = .ok (.iload_n 1, 1) := by decide +kernel
theorem d_Pan_befall_7 : decode prog_5_method_26_code 7 = .ok (.invokevirtual 123, 3) := by decide +kernel
theorem d_Pan_befall_10 : decode prog_5_method_26_code 10 = .ok (.pop, 1) := by decide +kernel
theorem d_Pan_befall_11 : decode prog_5_method_26_code 11 = .ok (.goto 41, 3) := by decide +kernel
theorem d_Pan_befall_14 : decode prog_5_method_26_code 14 = .ok (.iload_n 1, 1) := by decide +kernel
theorem d_Pan_befall_15 : decode prog_5_method_26_code 15 = .ok (.bipush 10, 2) := by decide +kernel
theorem d_Pan_befall_17 : decode prog_5_method_26_code 17 = .ok (.if_icmp .ge 15, 3) := by decide +kernel
theorem d_Pan_befall_20 : decode prog_5_method_26_code 20 = .ok (.aload_n 0, 1) := by decide +kernel
theorem d_Pan_befall_21 : decode prog_5_method_26_code 21 = .ok (.iload_n 1, 1) := by decide +kernel
theorem d_Pan_befall_22 : decode prog_5_method_26_code 22 = .ok (.iconst 5, 1) := by decide +kernel
theorem d_Pan_befall_23 : decode prog_5_method_26_code 23 = .ok (.isub, 1) := by decide +kernel
theorem d_Pan_befall_24 : decode prog_5_method_26_code 24 = .ok (.iconst 1, 1) := by decide +kernel
theorem d_Pan_befall_25 : decode prog_5_method_26_code 25 = .ok (.invokevirtual 92, 3) := by decide +kernel
theorem d_Pan_befall_28 : decode prog_5_method_26_code 28 = .ok (.pop, 1) := by decide +kernel
theorem d_Pan_befall_29 : decode prog_5_method_26_code 29 = .ok (.goto 23, 3) := by decide +kernel
theorem d_Pan_befall_32 : decode prog_5_method_26_code 32 = .ok (.iload_n 1, 1) := by decide +kernel
theorem d_Pan_befall_33 : decode prog_5_method_26_code 33 = .ok (.bipush 12, 2) := by decide +kernel
theorem d_Pan_befall_35 : decode prog_5_method_26_code 35 = .ok (.if_icmp .ge 12, 3) := by decide +kernel
theorem d_Pan_befall_38 : decode prog_5_method_26_code 38 = .ok (.aload_n 0, 1) := by decide +kernel
theorem d_Pan_befall_39 : decode prog_5_method_26_code 39 = .ok (.iconst 3, 1) := by decide +kernel
theorem d_Pan_befall_40 : decode prog_5_method_26_code 40 = .ok (.invokevirtual 120, 3) := by decide +kernel
theorem d_Pan_befall_43 : decode prog_5_method_26_code 43 = .ok (.pop, 1) := by decide +kernel
theorem d_Pan_befall_44 : decode prog_5_method_26_code 44 = .ok (.goto 8, 3) := by decide +kernel
theorem d_Pan_befall_47 : decode prog_5_method_26_code 47 = .ok (.aload_n 0, 1) := by decide +kernel
theorem d_Pan_befall_48 : decode prog_5_method_26_code 48 = .ok (.iconst 0, 1) := by decide +kernel
theorem d_Pan_befall_49 : decode prog_5_method_26_code 49 = .ok (.invokevirtual 110, 3) := by decide +kernel
theorem d_Pan_befall_52 : decode prog_5_method_26_code 52 = .ok (.return_, 1) := by decide +kernel
theorem d_Int_bitCount_0 : decode prog_9_method_49_code 0 = .ok (.iload_n 0, 1) := by decide +kernel
theorem d_Int_bitCount_1 : decode prog_9_method_49_code 1 = .ok (.iload_n 0, 1) := by decide +kernel
theorem d_Int_bitCount_2 : decode prog_9_method_49_code 2 = .ok (.iconst 1, 1) := by decide +kernel
theorem d_Int_bitCount_3 : decode prog_9_method_49_code 3 = .ok (.iushr, 1) := by decide +kernel
theorem d_Int_bitCount_4 : decode prog_9_method_49_code 4 = .ok (.ldc_w 265, 3) := by decide +kernel
theorem d_Int_bitCount_7 : decode prog_9_method_49_code 7 = .ok (.iand, 1) := by decide +kernel
theorem d_Int_bitCount_8 : decode prog_9_method_49_code 8 = .ok (.isub, 1) := by decide +kernel
theorem d_Int_bitCount_9 : decode prog_9_method_49_code 9 = .ok (.istore_n 0, 1) := by decide +kernel
theorem d_Int_bitCount_10 : decode prog_9_method_49_code 10 = .ok (.iload_n 0, 1) := by decide +kernel
theorem d_Int_bitCount_11 : decode prog_9_method_49_code 11 = .ok (.ldc_w 266, 3) := by decide +kernel
theorem d_Int_bitCount_14 : decode prog_9_method_49_code 14 = .ok (.iand, 1) := by decide +kernel
theorem d_Int_bitCount_15 : decode prog_9_method_49_code 15 = .ok (.iload_n 0, 1) := by decide +kernel
theorem d_Int_bitCount_16 : decode prog_9_method_49_code 16 = .ok (.iconst 2, 1) := by decide +kernel
theorem d_Int_bitCount_17 : decode prog_9_method_49_code 17 = .ok (.iushr, 1) := by decide +kernel
theorem d_Int_bitCount_18 : decode prog_9_method_49_code 18 = .ok (.ldc_w 266, 3) := by decide +kernel
theorem d_Int_bitCount_21 : decode prog_9_method_49_code 21 = .ok (.iand, 1) := by decide +kernel
theorem d_Int_bitCount_22 : decode prog_9_method_49_code 22 = .ok (.iadd, 1) := by decide +kernel
theorem d_Int_bitCount_23 : decode prog_9_method_49_code 23 = .ok (.istore_n 0, 1) := by decide +kernel
theorem d_Int_bitCount_24 : decode prog_9_method_49_code 24 = .ok (.iload_n 0, 1) := by decide +kernel
theorem d_Int_bitCount_25 : decode prog_9_method_49_code 25 = .ok (.iload_n 0, 1) := by decide +kernel
theorem d_Int_bitCount_26 : decode prog_9_method_49_code 26 = .ok (.iconst 4, 1) := by decide +kernel
theorem d_Int_bitCount_27 : decode prog_9_method_49_code 27 = .ok (.iushr, 1) := by decide +kernel
theorem d_Int_bitCount_28 : decode prog_9_method_49_code 28 = .ok (.iadd, 1) := by decide +kernel
theorem d_Int_bitCount_29 : decode prog_9_method_49_code 29 = .ok (.ldc_w 267, 3) := by decide +kernel
theorem d_Int_bitCount_32 : decode prog_9_method_49_code 32 = .ok (.iand, 1) := by decide +kernel
theorem d_Int_bitCount_33 : decode prog_9_method_49_code 33 = .ok (.istore_n 0, 1) := by decide +kernel
theorem d_Int_bitCount_34 : decode prog_9_method_49_code 34 = .ok (.iload_n 0, 1) := by decide +kernel
theorem d_Int_bitCount_35 : decode prog_9_method_49_code 35 = .ok (.iload_n 0, 1) := by decide +kernel
theorem d_Int_bitCount_36 : decode prog_9_method_49_code 36 = .ok (.bipush 8, 2) := by decide +kernel
theorem d_Int_bitCount_38 : decode prog_9_method_49_code 38 = .ok (.iushr, 1) := by decide +kernel
theorem d_Int_bitCount_39 : decode prog_9_method_49_code 39 = .ok (.iadd, 1) := by decide +kernel
theorem d_Int_bitCount_40 : decode prog_9_method_49_code 40 = .ok (.istore_n 0, 1) := by decide +kernel
theorem d_Int_bitCount_41 : decode prog_9_method_49_code 41 = .ok (.iload_n 0, 1) := by decide +kernel
theorem d_Int_bitCount_42 : decode prog_9_method_49_code 42 = .ok (.iload_n 0, 1) := by decide +kernel
theorem d_Int_bitCount_43 : decode prog_9_method_49_code 43 = .ok (.bipush 16, 2) := by decide +kernel
theorem d_Int_bitCount_45 : decode prog_9_method_49_code 45 = .ok (.iushr, 1) := by decide +kernel
theorem d_Int_bitCount_46 : decode prog_9_method_49_code 46 = .ok (.iadd, 1) := by decide +kernel
theorem d_Int_bitCount_47 : decode prog_9_method_49_code 47 = .ok (.istore_n 0, 1) := by decide +kernel
theorem d_Int_bitCount_48 : decode prog_9_method_49_code 48 = .ok (.iload_n 0, 1) := by decide +kernel
theorem d_Int_bitCount_49 : decode prog_9_method_49_code 49 = .ok (.bipush 63, 2) := by decide +kernel
theorem d_Int_bitCount_51 : decode prog_9_method_49_code 51 = .ok (.iand, 1) := by decide +kernel
theorem d_Int_bitCount_52 : decode prog_9_method_49_code 52 = .ok (.ireturn, 1) := by decide +kernel
theorem d_Mth_abs_0 : decode prog_10_method_59_code 0 = .ok (.iload_n 0, 1) := by decide +kernel
theorem d_Mth_abs_1 : decode prog_10_method_59_code 1 = .ok (.ifCond .ge 8, 3) := by decide +kernel
theorem d_Mth_abs_4 : decode prog_10_method_59_code 4 = .ok (.iload_n 0, 1) := by decide +kernel
theorem d_Mth_abs_5 : decode prog_10_method_59_code 5 = .ok (.ineg, 1) := by decide +kernel
theorem d_Mth_abs_6 : decode prog_10_method_59_code 6 = .ok (.goto 4, 3) := by decide +kernel
theorem d_Mth_abs_9 : decode prog_10_method_59_code 9 = .ok (.iload_n 0, 1) := by decide +kernel
theorem d_Mth_abs_10 : decode prog_10_method_59_code 10 = .ok (.ireturn, 1) := by decide +kernel
end
section
def f_Mth_min (x0 : Int32) (x1 : Int32) (X : HI) (Y : HL) : Option Out :=
    (if x1 < x0 then
    (rI x1 X Y)
    else
    (rI x0 X Y))
set_option maxRecDepth 4000 in
theorem c_Mth_min {K : KK} (hK : kOK K) (x0 : Int32) (x1 : Int32) (X : HI) (Y : HL) : CT K y_Mth_min prog_10_method_69_code 2 (some .int) rm_Mth_min [.int x0, .int x1] X Y (f_Mth_min x0 x1 X Y) := by
  refine ct_of hK (L := [some (.int x0), some (.int x1)]) (by decide) ⟨rfl, ⟨rfl, trivial⟩⟩ (Nat.le_of_ble_eq_true rfl) ?_
  unfold f_Mth_min
  refine j_iload_n (i := 0) (x := x0) (q := 1) d_Mth_min_0 rfl rfl rfl ?_
  refine j_iload_n (i := 1) (x := x1) (q := 2) d_Mth_min_1 rfl rfl rfl ?_
  refine j_icmp_gt (t := 9) (q := 5) d_Mth_min_2 (by decide) rfl ?_ ?_
  · refine j_iload_n (i := 1) (x := x1) (q := 10) d_Mth_min_9 rfl rfl rfl ?_
    exact j_iret d_Mth_min_10
  · refine j_iload_n (i := 0) (x := x0) (q := 6) d_Mth_min_5 rfl rfl rfl ?_
    refine j_goto (q := 10) d_Mth_min_6 (by decide) ?_
    exact j_iret d_Mth_min_10
def l_Pan_copy_2 (p : Nat) (q : Nat) (kx : Int32 → HI → HL → Option Out) : Nat → Int32 → HI → HL → Option Out
  | 0, _, _, _ => none
  | n + 1, m2, X, Y =>
    (if (6 : Int32) ≤ m2 then
    (kx m2 X Y)
    else
    gd (ixb m2 6) (
    wr (ixb m2 6) (up X (p + 1) m2.toNatClampNeg (X (q + 1) m2.toNatClampNeg)) (fun X1 =>
    gd (ixb m2 6) (
    wr (ixb m2 6) (up X1 (p + 2) m2.toNatClampNeg (X1 (q + 2) m2.toNatClampNeg)) (fun X2 =>
    (l_Pan_copy_2 p q kx n (m2 + (1 : Int32)) X2 Y))))))
def f_Pan_copy (p : Nat) (q : Nat) (X : HI) (Y : HL) : Option Out :=
    (l_Pan_copy_2 p q (fun w3 X4 Y5 =>
    lh (up X4 p 3 (X4 q 3)) (fun X6 =>
    lh (up X6 p 4 (X6 q 4)) (fun X7 =>
    lh (up X7 p 5 (X7 q 5)) (fun X8 =>
    (rV X8 Y5))))) 256 (0 : Int32) X Y)
set_option maxRecDepth 4000 in
theorem jl_Pan_copy_2 {K : KK} (hK : kOK K) (p : Nat) (q : Nat) (hp : IsP p) (hq : IsP q) (kx : Int32 → HI → HL → Option Out) (hkx : ∀ (m2 : Int32) (X : HI) (Y : HL), JO K "BrinePans$Pans" prog_5_method_3_code 3 none rm_Pan_copy 0 0 (MZ K) 38 [some (.ref p), some (.ref q), none] [] X Y (kx m2 X Y)) : ∀ (n : Nat) (m2 : Int32) (X : HI) (Y : HL), JO K "BrinePans$Pans" prog_5_method_3_code 3 none rm_Pan_copy 0 0 (MZ K) 2 [some (.ref p), some (.ref q), some (.int m2)] [] X Y (l_Pan_copy_2 p q kx n m2 X Y) := by
  intro n
  induction n with
  | zero =>
    intro m2 X Y
    rw [l_Pan_copy_2]
    exact j_none
  | succ n ih =>
    intro m2 X Y
    rw [l_Pan_copy_2]
    refine j_iload_n (i := 2) (x := m2) (q := 3) d_Pan_copy_2 rfl rfl rfl ?_
    refine j_bipush (v := 6) (q := 5) d_Pan_copy_3 (by decide +kernel) rfl ?_
    refine j_icmp_ge (t := 38) (q := 8) d_Pan_copy_5 (by decide) rfl ?_ ?_
    · refine j_sub (L' := [some (.ref p), some (.ref q), none]) ⟨rfl, ⟨rfl, trivial⟩⟩ ?_
      exact hkx m2 X Y
    · refine j_aload_n (i := 0) (x := p) (q := 9) d_Pan_copy_8 rfl rfl rfl ?_
      refine j_get (v := .ref (p + 1)) (q := 12) d_Pan_copy_9 fk_Pan_9 (fv_P1 hp) rfl ?_
      refine j_iload_n (i := 2) (x := m2) (q := 13) d_Pan_copy_12 rfl rfl rfl ?_
      refine j_aload_n (i := 1) (x := q) (q := 14) d_Pan_copy_13 rfl rfl rfl ?_
      refine j_get (v := .ref (q + 1)) (q := 17) d_Pan_copy_14 fk_Pan_9 (fv_P1 hq) rfl ?_
      refine j_iload_n (i := 2) (x := m2) (q := 18) d_Pan_copy_17 rfl rfl rfl ?_
      refine j_iald (q := 19) d_Pan_copy_18 (ai_P1 hq) rfl ?_
      refine j_iast (q := 20) d_Pan_copy_19 (ai_P1 hp) rfl (fun X1 => ?_)
      refine j_aload_n (i := 0) (x := p) (q := 21) d_Pan_copy_20 rfl rfl rfl ?_
      refine j_get (v := .ref (p + 2)) (q := 24) d_Pan_copy_21 fk_Pan_15 (fv_P2 hp) rfl ?_
      refine j_iload_n (i := 2) (x := m2) (q := 25) d_Pan_copy_24 rfl rfl rfl ?_
      refine j_aload_n (i := 1) (x := q) (q := 26) d_Pan_copy_25 rfl rfl rfl ?_
      refine j_get (v := .ref (q + 2)) (q := 29) d_Pan_copy_26 fk_Pan_15 (fv_P2 hq) rfl ?_
      refine j_iload_n (i := 2) (x := m2) (q := 30) d_Pan_copy_29 rfl rfl rfl ?_
      refine j_iald (q := 31) d_Pan_copy_30 (ai_P2 hq) rfl ?_
      refine j_iast (q := 32) d_Pan_copy_31 (ai_P2 hp) rfl (fun X2 => ?_)
      refine j_iinc (i := 2) (x := m2) (d := 1) (L' := [some (.ref p), some (.ref q), some (.int (m2 + (1 : Int32)))]) (q := 35) d_Pan_copy_32 rfl (by decide) (by decide) rfl rfl rfl ?_
      refine j_goto (q := 2) d_Pan_copy_35 (by decide) ?_
      refine j_sub (L' := [some (.ref p), some (.ref q), some (.int (m2 + (1 : Int32)))]) ⟨rfl, ⟨rfl, ⟨rfl, trivial⟩⟩⟩ ?_
      exact ih (m2 + (1 : Int32)) X2 Y
set_option maxRecDepth 4000 in
theorem c_Pan_copy {K : KK} (hK : kOK K) (p : Nat) (q : Nat) (hp : IsP p) (hq : IsP q) (X : HI) (Y : HL) : CT K y_Pan_copy prog_5_method_3_code 3 none rm_Pan_copy [.ref p, .ref q] X Y (f_Pan_copy p q X Y) := by
  refine ct_of hK (L := [some (.ref p), some (.ref q), none]) (by decide) ⟨rfl, ⟨rfl, trivial⟩⟩ (Nat.le_of_ble_eq_true rfl) ?_
  unfold f_Pan_copy
  refine j_iconst (v := 0) (q := 1) d_Pan_copy_0 (by decide) rfl ?_
  refine j_istore_n (i := 2) (L' := [some (.ref p), some (.ref q), some (.int (0 : Int32))]) (q := 2) d_Pan_copy_1 rfl (by decide) rfl rfl rfl ?_
  refine j_sub (L' := [some (.ref p), some (.ref q), some (.int (0 : Int32))]) ⟨rfl, ⟨rfl, ⟨rfl, trivial⟩⟩⟩ ?_
  refine jl_Pan_copy_2 hK p q hp hq _ (fun w3 X4 Y5 => ?_) 256 (0 : Int32) X Y
  refine j_aload_n (i := 0) (x := p) (q := 39) d_Pan_copy_38 rfl rfl rfl ?_
  refine j_aload_n (i := 1) (x := q) (q := 40) d_Pan_copy_39 rfl rfl rfl ?_
  refine j_get (v := .int (X4 q 3)) (q := 43) d_Pan_copy_40 fk_Pan_18 (fv_P3 hq) rfl ?_
  refine j_putI (q := 46) d_Pan_copy_43 fp_Pan_18 (fw_P3 hp) rfl (fun X6 => ?_)
  refine j_aload_n (i := 0) (x := p) (q := 47) d_Pan_copy_46 rfl rfl rfl ?_
  refine j_aload_n (i := 1) (x := q) (q := 48) d_Pan_copy_47 rfl rfl rfl ?_
  refine j_get (v := .int (X6 q 4)) (q := 51) d_Pan_copy_48 fk_Pan_22 (fv_P4 hq) rfl ?_
  refine j_putI (q := 54) d_Pan_copy_51 fp_Pan_22 (fw_P4 hp) rfl (fun X7 => ?_)
  refine j_aload_n (i := 0) (x := p) (q := 55) d_Pan_copy_54 rfl rfl rfl ?_
  refine j_aload_n (i := 1) (x := q) (q := 56) d_Pan_copy_55 rfl rfl rfl ?_
  refine j_get (v := .int (X7 q 5)) (q := 59) d_Pan_copy_56 fk_Pan_25 (fv_P5 hq) rfl ?_
  refine j_putI (q := 62) d_Pan_copy_59 fp_Pan_25 (fw_P5 hp) rfl (fun X8 => ?_)
  exact j_vret d_Pan_copy_62
def f_Gro_clear (X : HI) (Y : HL) : Option Out :=
    lh (up X 3 2 (0 : Int32)) (fun X1 =>
    lh (up X1 3 3 (0 : Int32)) (fun X2 =>
    (rV X2 Y)))
set_option maxRecDepth 4000 in
theorem c_Gro_clear {K : KK} (hK : kOK K) (X : HI) (Y : HL) : CT K y_Gro_clear prog_4_method_2_code 1 none rm_Gro_clear [.ref 3] X Y (f_Gro_clear X Y) := by
  refine ct_of hK (L := [some (.ref 3)]) (by decide) ⟨rfl, trivial⟩ (Nat.le_of_ble_eq_true rfl) ?_
  unfold f_Gro_clear
  refine j_aload_n (i := 0) (x := 3) (q := 1) d_Gro_clear_0 rfl rfl rfl ?_
  refine j_iconst (v := 0) (q := 2) d_Gro_clear_1 (by decide) rfl ?_
  refine j_putI (q := 5) d_Gro_clear_2 fp_Gro_18 fw_3_2 rfl (fun X1 => ?_)
  refine j_aload_n (i := 0) (x := 3) (q := 6) d_Gro_clear_5 rfl rfl rfl ?_
  refine j_iconst (v := 0) (q := 7) d_Gro_clear_6 (by decide) rfl ?_
  refine j_putI (q := 10) d_Gro_clear_7 fp_Gro_22 fw_3_3 rfl (fun X2 => ?_)
  exact j_vret d_Gro_clear_10
def f_Gro_addPan (x1 : Int32) (X : HI) (Y : HL) : Option Out :=
    (if (6 : Int32) ≤ (X 3 2) then
    (rV X Y)
    else
    wr (ixb (X 3 2) 6) (up X 4 (X 3 2).toNatClampNeg x1) (fun X1 =>
    lh (up X1 3 2 ((X1 3 2) + (1 : Int32))) (fun X2 =>
    (rV X2 Y))))
set_option maxRecDepth 4000 in
theorem c_Gro_addPan {K : KK} (hK : kOK K) (x1 : Int32) (X : HI) (Y : HL) : CT K y_Gro_addPan prog_4_method_3_code 2 none rm_Gro_addPan [.ref 3, .int x1] X Y (f_Gro_addPan x1 X Y) := by
  refine ct_of hK (L := [some (.ref 3), some (.int x1)]) (by decide) ⟨rfl, ⟨rfl, trivial⟩⟩ (Nat.le_of_ble_eq_true rfl) ?_
  unfold f_Gro_addPan
  refine j_aload_n (i := 0) (x := 3) (q := 1) d_Gro_addPan_0 rfl rfl rfl ?_
  refine j_get (v := .int (X 3 2)) (q := 4) d_Gro_addPan_1 fk_Gro_18 fv_3_2 rfl ?_
  refine j_bipush (v := 6) (q := 6) d_Gro_addPan_4 (by decide +kernel) rfl ?_
  refine j_icmp_ge (t := 29) (q := 9) d_Gro_addPan_6 (by decide) rfl ?_ ?_
  · exact j_vret d_Gro_addPan_29
  · refine j_aload_n (i := 0) (x := 3) (q := 10) d_Gro_addPan_9 rfl rfl rfl ?_
    refine j_get (v := .ref 4) (q := 13) d_Gro_addPan_10 fk_Gro_9 fv_3_0 rfl ?_
    refine j_aload_n (i := 0) (x := 3) (q := 14) d_Gro_addPan_13 rfl rfl rfl ?_
    refine j_get (v := .int (X 3 2)) (q := 17) d_Gro_addPan_14 fk_Gro_18 fv_3_2 rfl ?_
    refine j_iload_n (i := 1) (x := x1) (q := 18) d_Gro_addPan_17 rfl rfl rfl ?_
    refine j_iast (q := 19) d_Gro_addPan_18 ai_4 rfl (fun X1 => ?_)
    refine j_aload_n (i := 0) (x := 3) (q := 20) d_Gro_addPan_19 rfl rfl rfl ?_
    refine j_dup (q := 21) d_Gro_addPan_20 rfl rfl ?_
    refine j_get (v := .int (X1 3 2)) (q := 24) d_Gro_addPan_21 fk_Gro_18 fv_3_2 rfl ?_
    refine j_iconst (v := 1) (q := 25) d_Gro_addPan_24 (by decide) rfl ?_
    refine j_iadd (q := 26) d_Gro_addPan_25 rfl ?_
    refine j_putI (q := 29) d_Gro_addPan_26 fp_Gro_18 fw_3_2 rfl (fun X2 => ?_)
    exact j_vret d_Gro_addPan_29
def f_Gro_addSky (x1 : Int32) (X : HI) (Y : HL) : Option Out :=
    (if (5 : Int32) ≤ (X 3 3) then
    (rV X Y)
    else
    wr (ixb (X 3 3) 5) (up X 5 (X 3 3).toNatClampNeg x1) (fun X1 =>
    lh (up X1 3 3 ((X1 3 3) + (1 : Int32))) (fun X2 =>
    (rV X2 Y))))
set_option maxRecDepth 4000 in
theorem c_Gro_addSky {K : KK} (hK : kOK K) (x1 : Int32) (X : HI) (Y : HL) : CT K y_Gro_addSky prog_4_method_4_code 2 none rm_Gro_addSky [.ref 3, .int x1] X Y (f_Gro_addSky x1 X Y) := by
  refine ct_of hK (L := [some (.ref 3), some (.int x1)]) (by decide) ⟨rfl, ⟨rfl, trivial⟩⟩ (Nat.le_of_ble_eq_true rfl) ?_
  unfold f_Gro_addSky
  refine j_aload_n (i := 0) (x := 3) (q := 1) d_Gro_addSky_0 rfl rfl rfl ?_
  refine j_get (v := .int (X 3 3)) (q := 4) d_Gro_addSky_1 fk_Gro_22 fv_3_3 rfl ?_
  refine j_iconst (v := 5) (q := 5) d_Gro_addSky_4 (by decide) rfl ?_
  refine j_icmp_ge (t := 28) (q := 8) d_Gro_addSky_5 (by decide) rfl ?_ ?_
  · exact j_vret d_Gro_addSky_28
  · refine j_aload_n (i := 0) (x := 3) (q := 9) d_Gro_addSky_8 rfl rfl rfl ?_
    refine j_get (v := .ref 5) (q := 12) d_Gro_addSky_9 fk_Gro_15 fv_3_1 rfl ?_
    refine j_aload_n (i := 0) (x := 3) (q := 13) d_Gro_addSky_12 rfl rfl rfl ?_
    refine j_get (v := .int (X 3 3)) (q := 16) d_Gro_addSky_13 fk_Gro_22 fv_3_3 rfl ?_
    refine j_iload_n (i := 1) (x := x1) (q := 17) d_Gro_addSky_16 rfl rfl rfl ?_
    refine j_iast (q := 18) d_Gro_addSky_17 ai_5 rfl (fun X1 => ?_)
    refine j_aload_n (i := 0) (x := 3) (q := 19) d_Gro_addSky_18 rfl rfl rfl ?_
    refine j_dup (q := 20) d_Gro_addSky_19 rfl rfl ?_
    refine j_get (v := .int (X1 3 3)) (q := 23) d_Gro_addSky_20 fk_Gro_22 fv_3_3 rfl ?_
    refine j_iconst (v := 1) (q := 24) d_Gro_addSky_23 (by decide) rfl ?_
    refine j_iadd (q := 25) d_Gro_addSky_24 rfl ?_
    refine j_putI (q := 28) d_Gro_addSky_25 fp_Gro_22 fw_3_3 rfl (fun X2 => ?_)
    exact j_vret d_Gro_addSky_28
def f_Gro_hasPan (x1 : Int32) (X : HI) (Y : HL) : Option Out :=
    (if x1 < 0 then
    (rI (0 : Int32) X Y)
    else
    (if (X 3 2) ≤ x1 then
    (rI (0 : Int32) X Y)
    else
    (rI (1 : Int32) X Y)))
set_option maxRecDepth 4000 in
theorem c_Gro_hasPan {K : KK} (hK : kOK K) (x1 : Int32) (X : HI) (Y : HL) : CT K y_Gro_hasPan prog_4_method_5_code 2 (some .boolean) rm_Gro_hasPan [.ref 3, .int x1] X Y (f_Gro_hasPan x1 X Y) := by
  refine ct_of hK (L := [some (.ref 3), some (.int x1)]) (by decide) ⟨rfl, ⟨rfl, trivial⟩⟩ (Nat.le_of_ble_eq_true rfl) ?_
  unfold f_Gro_hasPan
  refine j_iload_n (i := 1) (x := x1) (q := 1) d_Gro_hasPan_0 rfl rfl rfl ?_
  refine j_if_lt (t := 16) (q := 4) d_Gro_hasPan_1 (by decide) rfl ?_ ?_
  · refine j_iconst (v := 0) (q := 17) d_Gro_hasPan_16 (by decide) rfl ?_
    exact j_zret d_Gro_hasPan_17 (by decide)
  · refine j_iload_n (i := 1) (x := x1) (q := 5) d_Gro_hasPan_4 rfl rfl rfl ?_
    refine j_aload_n (i := 0) (x := 3) (q := 6) d_Gro_hasPan_5 rfl rfl rfl ?_
    refine j_get (v := .int (X 3 2)) (q := 9) d_Gro_hasPan_6 fk_Gro_18 fv_3_2 rfl ?_
    refine j_icmp_ge (t := 16) (q := 12) d_Gro_hasPan_9 (by decide) rfl ?_ ?_
    · refine j_iconst (v := 0) (q := 17) d_Gro_hasPan_16 (by decide) rfl ?_
      exact j_zret d_Gro_hasPan_17 (by decide)
    · refine j_iconst (v := 1) (q := 13) d_Gro_hasPan_12 (by decide) rfl ?_
      refine j_goto (q := 17) d_Gro_hasPan_13 (by decide) ?_
      exact j_zret d_Gro_hasPan_17 (by decide)
def f_Gro_gateCount (X : HI) (Y : HL) : Option Out :=
    (if (X 3 2) = 0 then
    (rI (0 : Int32) X Y)
    else
    (rI ((X 3 2) - (1 : Int32)) X Y))
set_option maxRecDepth 4000 in
theorem c_Gro_gateCount {K : KK} (hK : kOK K) (X : HI) (Y : HL) : CT K y_Gro_gateCount prog_4_method_6_code 1 (some .int) rm_Gro_gateCount [.ref 3] X Y (f_Gro_gateCount X Y) := by
  refine ct_of hK (L := [some (.ref 3)]) (by decide) ⟨rfl, trivial⟩ (Nat.le_of_ble_eq_true rfl) ?_
  unfold f_Gro_gateCount
  refine j_aload_n (i := 0) (x := 3) (q := 1) d_Gro_gateCount_0 rfl rfl rfl ?_
  refine j_get (v := .int (X 3 2)) (q := 4) d_Gro_gateCount_1 fk_Gro_18 fv_3_2 rfl ?_
  refine j_if_ne (t := 11) (q := 7) d_Gro_gateCount_4 (by decide) rfl ?_ ?_
  · refine j_aload_n (i := 0) (x := 3) (q := 12) d_Gro_gateCount_11 rfl rfl rfl ?_
    refine j_get (v := .int (X 3 2)) (q := 15) d_Gro_gateCount_12 fk_Gro_18 fv_3_2 rfl ?_
    refine j_iconst (v := 1) (q := 16) d_Gro_gateCount_15 (by decide) rfl ?_
    refine j_isub (q := 17) d_Gro_gateCount_16 rfl ?_
    exact j_iret d_Gro_gateCount_17
  · refine j_iconst (v := 0) (q := 8) d_Gro_gateCount_7 (by decide) rfl ?_
    refine j_goto (q := 17) d_Gro_gateCount_8 (by decide) ?_
    exact j_iret d_Gro_gateCount_17
def f_Gro_hasGate (x1 : Int32) (X : HI) (Y : HL) : Option Out :=
    (if x1 < 0 then
    (rI (0 : Int32) X Y)
    else
    bi (f_Gro_gateCount X Y) (fun r3 X1 Y2 =>
    (if r3 ≤ x1 then
    (rI (0 : Int32) X1 Y2)
    else
    (rI (1 : Int32) X1 Y2))))
set_option maxRecDepth 4000 in
theorem c_Gro_hasGate {K : KK} (hK : kOK K) (x1 : Int32) (X : HI) (Y : HL) : CT K y_Gro_hasGate prog_4_method_7_code 2 (some .boolean) rm_Gro_hasGate [.ref 3, .int x1] X Y (f_Gro_hasGate x1 X Y) := by
  refine ct_of hK (L := [some (.ref 3), some (.int x1)]) (by decide) ⟨rfl, ⟨rfl, trivial⟩⟩ (Nat.le_of_ble_eq_true rfl) ?_
  unfold f_Gro_hasGate
  refine j_iload_n (i := 1) (x := x1) (q := 1) d_Gro_hasGate_0 rfl rfl rfl ?_
  refine j_if_lt (t := 16) (q := 4) d_Gro_hasGate_1 (by decide) rfl ?_ ?_
  · refine j_iconst (v := 0) (q := 17) d_Gro_hasGate_16 (by decide) rfl ?_
    exact j_zret d_Gro_hasGate_17 (by decide)
  · refine j_iload_n (i := 1) (x := x1) (q := 5) d_Gro_hasGate_4 rfl rfl rfl ?_
    refine j_aload_n (i := 0) (x := 3) (q := 6) d_Gro_hasGate_5 rfl rfl rfl ?_
    refine j_callVi (a := 3) (S := [.int x1]) (q := 9) [] d_Gro_hasGate_6 mw_Gro_gateCount mv_Gro_gateCount ml_Gro_25 ob_3 rfl rfl (c_Gro_gateCount hK X Y) ⟨⟨rfl, rfl⟩, ⟨Nat.le_of_ble_eq_true rfl, Nat.le_of_ble_eq_true rfl⟩, ⟨Nat.le_refl 0, Nat.le_refl 0⟩⟩ (Nat.le_of_ble_eq_true rfl) rfl (fun r3 X1 Y2 => ?_)
    refine j_icmp_ge (t := 16) (q := 12) d_Gro_hasGate_9 (by decide) rfl ?_ ?_
    · refine j_iconst (v := 0) (q := 17) d_Gro_hasGate_16 (by decide) rfl ?_
      exact j_zret d_Gro_hasGate_17 (by decide)
    · refine j_iconst (v := 1) (q := 13) d_Gro_hasGate_12 (by decide) rfl ?_
      refine j_goto (q := 17) d_Gro_hasGate_13 (by decide) ?_
      exact j_zret d_Gro_hasGate_17 (by decide)
def f_Gro_skyOf (x1 : Int32) (X : HI) (Y : HL) : Option Out :=
    (if (X 3 3) = 0 then
    (rI (0 : Int32) X Y)
    else
    (if 0 ≤ x1 then
    gd (nzb (X 3 3)) (
    gd (ixb (x1 - x1 / (X 3 3) * (X 3 3)) 5) (
    (rI (X 5 (x1 - x1 / (X 3 3) * (X 3 3)).toNatClampNeg) X Y)))
    else
    (rI (0 : Int32) X Y)))
set_option maxRecDepth 4000 in
theorem c_Gro_skyOf {K : KK} (hK : kOK K) (x1 : Int32) (X : HI) (Y : HL) : CT K y_Gro_skyOf prog_4_method_8_code 2 (some .int) rm_Gro_skyOf [.ref 3, .int x1] X Y (f_Gro_skyOf x1 X Y) := by
  refine ct_of hK (L := [some (.ref 3), some (.int x1)]) (by decide) ⟨rfl, ⟨rfl, trivial⟩⟩ (Nat.le_of_ble_eq_true rfl) ?_
  unfold f_Gro_skyOf
  refine j_aload_n (i := 0) (x := 3) (q := 1) d_Gro_skyOf_0 rfl rfl rfl ?_
  refine j_get (v := .int (X 3 3)) (q := 4) d_Gro_skyOf_1 fk_Gro_22 fv_3_3 rfl ?_
  refine j_if_eq (t := 11) (q := 7) d_Gro_skyOf_4 (by decide) rfl ?_ ?_
  · refine j_iconst (v := 0) (q := 12) d_Gro_skyOf_11 (by decide) rfl ?_
    refine j_goto (q := 26) d_Gro_skyOf_12 (by decide) ?_
    exact j_iret d_Gro_skyOf_26
  · refine j_iload_n (i := 1) (x := x1) (q := 8) d_Gro_skyOf_7 rfl rfl rfl ?_
    refine j_if_ge (t := 15) (q := 11) d_Gro_skyOf_8 (by decide) rfl ?_ ?_
    · refine j_aload_n (i := 0) (x := 3) (q := 16) d_Gro_skyOf_15 rfl rfl rfl ?_
      refine j_get (v := .ref 5) (q := 19) d_Gro_skyOf_16 fk_Gro_15 fv_3_1 rfl ?_
      refine j_iload_n (i := 1) (x := x1) (q := 20) d_Gro_skyOf_19 rfl rfl rfl ?_
      refine j_aload_n (i := 0) (x := 3) (q := 21) d_Gro_skyOf_20 rfl rfl rfl ?_
      refine j_get (v := .int (X 3 3)) (q := 24) d_Gro_skyOf_21 fk_Gro_22 fv_3_3 rfl ?_
      refine j_irem (q := 25) d_Gro_skyOf_24 rfl ?_
      refine j_iald (q := 26) d_Gro_skyOf_25 ai_5 rfl ?_
      exact j_iret d_Gro_skyOf_26
    · refine j_iconst (v := 0) (q := 12) d_Gro_skyOf_11 (by decide) rfl ?_
      refine j_goto (q := 26) d_Gro_skyOf_12 (by decide) ?_
      exact j_iret d_Gro_skyOf_26
def f_Gro_depthOf (x1 : Int32) (X : HI) (Y : HL) : Option Out :=
    gd (ixb x1 6) (
    (if (X 4 x1.toNatClampNeg) = (1 : Int32) then
    (rI (9 : Int32) X Y)
    else
    (rI (6 : Int32) X Y)))
set_option maxRecDepth 4000 in
theorem c_Gro_depthOf {K : KK} (hK : kOK K) (x1 : Int32) (X : HI) (Y : HL) : CT K y_Gro_depthOf prog_4_method_9_code 2 (some .int) rm_Gro_depthOf [.ref 3, .int x1] X Y (f_Gro_depthOf x1 X Y) := by
  refine ct_of hK (L := [some (.ref 3), some (.int x1)]) (by decide) ⟨rfl, ⟨rfl, trivial⟩⟩ (Nat.le_of_ble_eq_true rfl) ?_
  unfold f_Gro_depthOf
  refine j_aload_n (i := 0) (x := 3) (q := 1) d_Gro_depthOf_0 rfl rfl rfl ?_
  refine j_get (v := .ref 4) (q := 4) d_Gro_depthOf_1 fk_Gro_9 fv_3_0 rfl ?_
  refine j_iload_n (i := 1) (x := x1) (q := 5) d_Gro_depthOf_4 rfl rfl rfl ?_
  refine j_iald (q := 6) d_Gro_depthOf_5 ai_4 rfl ?_
  refine j_iconst (v := 1) (q := 7) d_Gro_depthOf_6 (by decide) rfl ?_
  refine j_icmp_ne (t := 15) (q := 10) d_Gro_depthOf_7 (by decide) rfl ?_ ?_
  · refine j_bipush (v := 6) (q := 17) d_Gro_depthOf_15 (by decide +kernel) rfl ?_
    exact j_iret d_Gro_depthOf_17
  · refine j_bipush (v := 9) (q := 12) d_Gro_depthOf_10 (by decide +kernel) rfl ?_
    refine j_goto (q := 17) d_Gro_depthOf_12 (by decide) ?_
    exact j_iret d_Gro_depthOf_17
def b_Pan_emptyAllBut_30 (p : Nat) (kc : Int32 → HI → HL → Option Out) (kx : Int32 → HI → HL → Option Out) (x1 : Int32) (x2 : Int32) (X : HI) (Y : HL) : Option Out :=
    (kc (x2 + (1 : Int32)) X Y)
def l_Pan_emptyAllBut_2 (p : Nat) (x1 : Int32) (kx : Int32 → HI → HL → Option Out) : Nat → Int32 → HI → HL → Option Out
  | 0, _, _, _ => none
  | n + 1, m2, X, Y =>
    (if (6 : Int32) ≤ m2 then
    (kx m2 X Y)
    else
    (if ((x1 >>> (m2 &&& 31)) &&& (1 : Int32)) = 0 then
    wr (ixb m2 6) (up X (p + 1) m2.toNatClampNeg (0 : Int32)) (fun X1 =>
    wr (ixb m2 6) (up X1 (p + 2) m2.toNatClampNeg (0 : Int32)) (fun X2 =>
    (b_Pan_emptyAllBut_30 p (fun a2 A B => l_Pan_emptyAllBut_2 p x1 kx n a2 A B) kx x1 m2 X2 Y)))
    else
    (b_Pan_emptyAllBut_30 p (fun a2 A B => l_Pan_emptyAllBut_2 p x1 kx n a2 A B) kx x1 m2 X Y)))
def f_Pan_emptyAllBut (p : Nat) (x1 : Int32) (X : HI) (Y : HL) : Option Out :=
    (l_Pan_emptyAllBut_2 p x1 (fun w3 X4 Y5 =>
    (rV X4 Y5)) 256 (0 : Int32) X Y)
set_option maxRecDepth 4000 in
theorem jb_Pan_emptyAllBut_30 {K : KK} (hK : kOK K) (p : Nat) (hp : IsP p) (kc : Int32 → HI → HL → Option Out) (kx : Int32 → HI → HL → Option Out) (x1 : Int32) (x2 : Int32) (hkc : ∀ (m2 : Int32) (X : HI) (Y : HL), JO K "BrinePans$Pans" prog_5_method_4_code 3 none rm_Pan_emptyAllBut 0 0 (MZ K) 2 [some (.ref p), some (.int x1), some (.int m2)] [] X Y (kc m2 X Y)) (hkx : ∀ (m2 : Int32) (X : HI) (Y : HL), JO K "BrinePans$Pans" prog_5_method_4_code 3 none rm_Pan_emptyAllBut 0 0 (MZ K) 36 [none, none, none] [] X Y (kx m2 X Y)) (X : HI) (Y : HL) : JO K "BrinePans$Pans" prog_5_method_4_code 3 none rm_Pan_emptyAllBut 0 0 (MZ K) 30 [some (.ref p), some (.int x1), some (.int x2)] [] X Y (b_Pan_emptyAllBut_30 p kc kx x1 x2 X Y) := by
  unfold b_Pan_emptyAllBut_30
  refine j_iinc (i := 2) (x := x2) (d := 1) (L' := [some (.ref p), some (.int x1), some (.int (x2 + (1 : Int32)))]) (q := 33) d_Pan_emptyAllBut_30 rfl (by decide) (by decide) rfl rfl rfl ?_
  refine j_goto (q := 2) d_Pan_emptyAllBut_33 (by decide) ?_
  refine j_sub (L' := [some (.ref p), some (.int x1), some (.int (x2 + (1 : Int32)))]) ⟨rfl, ⟨rfl, ⟨rfl, trivial⟩⟩⟩ ?_
  exact hkc (x2 + (1 : Int32)) X Y
set_option maxRecDepth 4000 in
theorem jl_Pan_emptyAllBut_2 {K : KK} (hK : kOK K) (p : Nat) (hp : IsP p) (x1 : Int32) (kx : Int32 → HI → HL → Option Out) (hkx : ∀ (m2 : Int32) (X : HI) (Y : HL), JO K "BrinePans$Pans" prog_5_method_4_code 3 none rm_Pan_emptyAllBut 0 0 (MZ K) 36 [none, none, none] [] X Y (kx m2 X Y)) : ∀ (n : Nat) (m2 : Int32) (X : HI) (Y : HL), JO K "BrinePans$Pans" prog_5_method_4_code 3 none rm_Pan_emptyAllBut 0 0 (MZ K) 2 [some (.ref p), some (.int x1), some (.int m2)] [] X Y (l_Pan_emptyAllBut_2 p x1 kx n m2 X Y) := by
  intro n
  induction n with
  | zero =>
    intro m2 X Y
    rw [l_Pan_emptyAllBut_2]
    exact j_none
  | succ n ih =>
    intro m2 X Y
    rw [l_Pan_emptyAllBut_2]
    refine j_iload_n (i := 2) (x := m2) (q := 3) d_Pan_emptyAllBut_2 rfl rfl rfl ?_
    refine j_bipush (v := 6) (q := 5) d_Pan_emptyAllBut_3 (by decide +kernel) rfl ?_
    refine j_icmp_ge (t := 36) (q := 8) d_Pan_emptyAllBut_5 (by decide) rfl ?_ ?_
    · refine j_sub (L' := [none, none, none]) trivial ?_
      exact hkx m2 X Y
    · refine j_iload_n (i := 1) (x := x1) (q := 9) d_Pan_emptyAllBut_8 rfl rfl rfl ?_
      refine j_iload_n (i := 2) (x := m2) (q := 10) d_Pan_emptyAllBut_9 rfl rfl rfl ?_
      refine j_ishr (q := 11) d_Pan_emptyAllBut_10 rfl ?_
      refine j_iconst (v := 1) (q := 12) d_Pan_emptyAllBut_11 (by decide) rfl ?_
      refine j_iand (q := 13) d_Pan_emptyAllBut_12 rfl ?_
      refine j_if_ne (t := 30) (q := 16) d_Pan_emptyAllBut_13 (by decide) rfl ?_ ?_
      · refine j_sub (L' := [some (.ref p), some (.int x1), some (.int m2)]) ⟨rfl, ⟨rfl, ⟨rfl, trivial⟩⟩⟩ ?_
        exact jb_Pan_emptyAllBut_30 hK p hp (fun a2 A B => l_Pan_emptyAllBut_2 p x1 kx n a2 A B) kx x1 m2 ih hkx X Y
      · refine j_aload_n (i := 0) (x := p) (q := 17) d_Pan_emptyAllBut_16 rfl rfl rfl ?_
        refine j_get (v := .ref (p + 1)) (q := 20) d_Pan_emptyAllBut_17 fk_Pan_9 (fv_P1 hp) rfl ?_
        refine j_iload_n (i := 2) (x := m2) (q := 21) d_Pan_emptyAllBut_20 rfl rfl rfl ?_
        refine j_iconst (v := 0) (q := 22) d_Pan_emptyAllBut_21 (by decide) rfl ?_
        refine j_iast (q := 23) d_Pan_emptyAllBut_22 (ai_P1 hp) rfl (fun X1 => ?_)
        refine j_aload_n (i := 0) (x := p) (q := 24) d_Pan_emptyAllBut_23 rfl rfl rfl ?_
        refine j_get (v := .ref (p + 2)) (q := 27) d_Pan_emptyAllBut_24 fk_Pan_15 (fv_P2 hp) rfl ?_
        refine j_iload_n (i := 2) (x := m2) (q := 28) d_Pan_emptyAllBut_27 rfl rfl rfl ?_
        refine j_iconst (v := 0) (q := 29) d_Pan_emptyAllBut_28 (by decide) rfl ?_
        refine j_iast (q := 30) d_Pan_emptyAllBut_29 (ai_P2 hp) rfl (fun X2 => ?_)
        refine j_sub (L' := [some (.ref p), some (.int x1), some (.int m2)]) ⟨rfl, ⟨rfl, ⟨rfl, trivial⟩⟩⟩ ?_
        exact jb_Pan_emptyAllBut_30 hK p hp (fun a2 A B => l_Pan_emptyAllBut_2 p x1 kx n a2 A B) kx x1 m2 ih hkx X2 Y
set_option maxRecDepth 4000 in
theorem c_Pan_emptyAllBut {K : KK} (hK : kOK K) (p : Nat) (hp : IsP p) (x1 : Int32) (X : HI) (Y : HL) : CT K y_Pan_emptyAllBut prog_5_method_4_code 3 none rm_Pan_emptyAllBut [.ref p, .int x1] X Y (f_Pan_emptyAllBut p x1 X Y) := by
  refine ct_of hK (L := [some (.ref p), some (.int x1), none]) (by decide) ⟨rfl, ⟨rfl, trivial⟩⟩ (Nat.le_of_ble_eq_true rfl) ?_
  unfold f_Pan_emptyAllBut
  refine j_iconst (v := 0) (q := 1) d_Pan_emptyAllBut_0 (by decide) rfl ?_
  refine j_istore_n (i := 2) (L' := [some (.ref p), some (.int x1), some (.int (0 : Int32))]) (q := 2) d_Pan_emptyAllBut_1 rfl (by decide) rfl rfl rfl ?_
  refine j_sub (L' := [some (.ref p), some (.int x1), some (.int (0 : Int32))]) ⟨rfl, ⟨rfl, ⟨rfl, trivial⟩⟩⟩ ?_
  refine jl_Pan_emptyAllBut_2 hK p hp x1 _ (fun w3 X4 Y5 => ?_) 256 (0 : Int32) X Y
  exact j_vret d_Pan_emptyAllBut_36
def f_Pan_clear (p : Nat) (X : HI) (Y : HL) : Option Out :=
    bv (f_Pan_emptyAllBut p (0 : Int32) X Y) (fun X1 Y2 =>
    lh (up X1 p 3 (0 : Int32)) (fun X3 =>
    lh (up X3 p 4 (0 : Int32)) (fun X4 =>
    lh (up X4 p 5 (0 : Int32)) (fun X5 =>
    (rV X5 Y2)))))
set_option maxRecDepth 4000 in
theorem c_Pan_clear {K : KK} (hK : kOK K) (p : Nat) (hp : IsP p) (X : HI) (Y : HL) : CT K y_Pan_clear prog_5_method_2_code 1 none rm_Pan_clear [.ref p] X Y (f_Pan_clear p X Y) := by
  refine ct_of hK (L := [some (.ref p)]) (by decide) ⟨rfl, trivial⟩ (Nat.le_of_ble_eq_true rfl) ?_
  unfold f_Pan_clear
  refine j_aload_n (i := 0) (x := p) (q := 1) d_Pan_clear_0 rfl rfl rfl ?_
  refine j_iconst (v := 0) (q := 2) d_Pan_clear_1 (by decide) rfl ?_
  refine j_callVv (a := p) (S := []) (q := 5) [.int (0 : Int32)] d_Pan_clear_2 mw_Pan_emptyAllBut mv_Pan_emptyAllBut ml_Pan_32 (ob_P hp) rfl rfl (c_Pan_emptyAllBut hK p hp (0 : Int32) X Y) ⟨⟨rfl, rfl⟩, ⟨Nat.le_of_ble_eq_true rfl, Nat.le_of_ble_eq_true rfl⟩, ⟨Nat.le_refl 0, Nat.le_refl 0⟩⟩ (Nat.le_of_ble_eq_true rfl) rfl (fun X1 Y2 => ?_)
  refine j_aload_n (i := 0) (x := p) (q := 6) d_Pan_clear_5 rfl rfl rfl ?_
  refine j_iconst (v := 0) (q := 7) d_Pan_clear_6 (by decide) rfl ?_
  refine j_putI (q := 10) d_Pan_clear_7 fp_Pan_18 (fw_P3 hp) rfl (fun X3 => ?_)
  refine j_aload_n (i := 0) (x := p) (q := 11) d_Pan_clear_10 rfl rfl rfl ?_
  refine j_iconst (v := 0) (q := 12) d_Pan_clear_11 (by decide) rfl ?_
  refine j_putI (q := 15) d_Pan_clear_12 fp_Pan_22 (fw_P4 hp) rfl (fun X4 => ?_)
  refine j_aload_n (i := 0) (x := p) (q := 16) d_Pan_clear_15 rfl rfl rfl ?_
  refine j_iconst (v := 0) (q := 17) d_Pan_clear_16 (by decide) rfl ?_
  refine j_putI (q := 20) d_Pan_clear_17 fp_Pan_25 (fw_P5 hp) rfl (fun X5 => ?_)
  exact j_vret d_Pan_clear_20
def f_Pan_brineOf (p : Nat) (x1 : Int32) (X : HI) (Y : HL) : Option Out :=
    gd (ixb x1 6) (
    lt ((8 : Int32) * (X (p + 1) x1.toNatClampNeg)) (fun v1 =>
    gd (ixb x1 6) (
    (if v1 ≤ (X (p + 2) x1.toNatClampNeg) then
    (rI v1 X Y)
    else
    gd (ixb x1 6) (
    (rI (X (p + 2) x1.toNatClampNeg) X Y))))))
set_option maxRecDepth 4000 in
theorem c_Pan_brineOf {K : KK} (hK : kOK K) (p : Nat) (hp : IsP p) (x1 : Int32) (X : HI) (Y : HL) : CT K y_Pan_brineOf prog_5_method_5_code 3 (some .int) rm_Pan_brineOf [.ref p, .int x1] X Y (f_Pan_brineOf p x1 X Y) := by
  refine ct_of hK (L := [some (.ref p), some (.int x1), none]) (by decide) ⟨rfl, ⟨rfl, trivial⟩⟩ (Nat.le_of_ble_eq_true rfl) ?_
  unfold f_Pan_brineOf
  refine j_bipush (v := 8) (q := 2) d_Pan_brineOf_0 (by decide +kernel) rfl ?_
  refine j_aload_n (i := 0) (x := p) (q := 3) d_Pan_brineOf_2 rfl rfl rfl ?_
  refine j_get (v := .ref (p + 1)) (q := 6) d_Pan_brineOf_3 fk_Pan_9 (fv_P1 hp) rfl ?_
  refine j_iload_n (i := 1) (x := x1) (q := 7) d_Pan_brineOf_6 rfl rfl rfl ?_
  refine j_iald (q := 8) d_Pan_brineOf_7 (ai_P1 hp) rfl ?_
  refine j_imul (q := 9) d_Pan_brineOf_8 rfl ?_
  refine j_lt (fun v1 => ?_)
  refine j_istore_n (i := 2) (L' := [some (.ref p), some (.int x1), some (.int v1)]) (q := 10) d_Pan_brineOf_9 rfl (by decide) rfl rfl rfl ?_
  refine j_aload_n (i := 0) (x := p) (q := 11) d_Pan_brineOf_10 rfl rfl rfl ?_
  refine j_get (v := .ref (p + 2)) (q := 14) d_Pan_brineOf_11 fk_Pan_15 (fv_P2 hp) rfl ?_
  refine j_iload_n (i := 1) (x := x1) (q := 15) d_Pan_brineOf_14 rfl rfl rfl ?_
  refine j_iald (q := 16) d_Pan_brineOf_15 (ai_P2 hp) rfl ?_
  refine j_iload_n (i := 2) (x := v1) (q := 17) d_Pan_brineOf_16 rfl rfl rfl ?_
  refine j_icmp_ge (t := 29) (q := 20) d_Pan_brineOf_17 (by decide) rfl ?_ ?_
  · refine j_iload_n (i := 2) (x := v1) (q := 30) d_Pan_brineOf_29 rfl rfl rfl ?_
    exact j_iret d_Pan_brineOf_30
  · refine j_aload_n (i := 0) (x := p) (q := 21) d_Pan_brineOf_20 rfl rfl rfl ?_
    refine j_get (v := .ref (p + 2)) (q := 24) d_Pan_brineOf_21 fk_Pan_15 (fv_P2 hp) rfl ?_
    refine j_iload_n (i := 1) (x := x1) (q := 25) d_Pan_brineOf_24 rfl rfl rfl ?_
    refine j_iald (q := 26) d_Pan_brineOf_25 (ai_P2 hp) rfl ?_
    refine j_goto (q := 30) d_Pan_brineOf_26 (by decide) ?_
    exact j_iret d_Pan_brineOf_30
def f_Pan_crustOf (p : Nat) (x1 : Int32) (X : HI) (Y : HL) : Option Out :=
    gd (ixb x1 6) (
    bi (f_Pan_brineOf p x1 X Y) (fun r3 X1 Y2 =>
    (rI ((X (p + 2) x1.toNatClampNeg) - r3) X1 Y2)))
set_option maxRecDepth 4000 in
theorem c_Pan_crustOf {K : KK} (hK : kOK K) (p : Nat) (hp : IsP p) (x1 : Int32) (X : HI) (Y : HL) : CT K y_Pan_crustOf prog_5_method_6_code 2 (some .int) rm_Pan_crustOf [.ref p, .int x1] X Y (f_Pan_crustOf p x1 X Y) := by
  refine ct_of hK (L := [some (.ref p), some (.int x1)]) (by decide) ⟨rfl, ⟨rfl, trivial⟩⟩ (Nat.le_of_ble_eq_true rfl) ?_
  unfold f_Pan_crustOf
  refine j_aload_n (i := 0) (x := p) (q := 1) d_Pan_crustOf_0 rfl rfl rfl ?_
  refine j_get (v := .ref (p + 2)) (q := 4) d_Pan_crustOf_1 fk_Pan_15 (fv_P2 hp) rfl ?_
  refine j_iload_n (i := 1) (x := x1) (q := 5) d_Pan_crustOf_4 rfl rfl rfl ?_
  refine j_iald (q := 6) d_Pan_crustOf_5 (ai_P2 hp) rfl ?_
  refine j_aload_n (i := 0) (x := p) (q := 7) d_Pan_crustOf_6 rfl rfl rfl ?_
  refine j_iload_n (i := 1) (x := x1) (q := 8) d_Pan_crustOf_7 rfl rfl rfl ?_
  refine j_callVi (a := p) (S := [.int (X (p + 2) x1.toNatClampNeg)]) (q := 11) [.int x1] d_Pan_crustOf_8 mw_Pan_brineOf mv_Pan_brineOf ml_Pan_36 (ob_P hp) rfl rfl (c_Pan_brineOf hK p hp x1 X Y) ⟨⟨rfl, rfl⟩, ⟨Nat.le_of_ble_eq_true rfl, Nat.le_of_ble_eq_true rfl⟩, ⟨Nat.le_refl 0, Nat.le_refl 0⟩⟩ (Nat.le_of_ble_eq_true rfl) rfl (fun r3 X1 Y2 => ?_)
  refine j_isub (q := 12) d_Pan_crustOf_11 rfl ?_
  exact j_iret d_Pan_crustOf_12
def f_Pan_roomOf (p : Nat) (x1 : Int32) (X : HI) (Y : HL) : Option Out :=
    bi (f_Gro_depthOf x1 X Y) (fun r3 X1 Y2 =>
    gd (ixb x1 6) (
    (rI (r3 - (X1 (p + 1) x1.toNatClampNeg)) X1 Y2)))
set_option maxRecDepth 4000 in
theorem c_Pan_roomOf {K : KK} (hK : kOK K) (p : Nat) (hp : IsP p) (x1 : Int32) (X : HI) (Y : HL) : CT K y_Pan_roomOf prog_5_method_7_code 2 (some .int) rm_Pan_roomOf [.ref p, .int x1] X Y (f_Pan_roomOf p x1 X Y) := by
  refine ct_of hK (L := [some (.ref p), some (.int x1)]) (by decide) ⟨rfl, ⟨rfl, trivial⟩⟩ (Nat.le_of_ble_eq_true rfl) ?_
  unfold f_Pan_roomOf
  refine j_aload_n (i := 0) (x := p) (q := 1) d_Pan_roomOf_0 rfl rfl rfl ?_
  refine j_get (v := .ref 3) (q := 4) d_Pan_roomOf_1 fk_Pan_28 (fv_P0 hp) rfl ?_
  refine j_iload_n (i := 1) (x := x1) (q := 5) d_Pan_roomOf_4 rfl rfl rfl ?_
  refine j_callVNi (a := 3) (S := []) (q := 8) [.int x1] d_Pan_roomOf_5 mw_Gro_depthOf mv_Gro_depthOf ml_Pan_40 ob_3 rfl rfl (c_Gro_depthOf hK x1 X Y) ⟨⟨rfl, rfl⟩, ⟨Nat.le_of_ble_eq_true rfl, Nat.le_of_ble_eq_true rfl⟩, ⟨Nat.le_refl 0, Nat.le_refl 0⟩⟩ (Nat.le_of_ble_eq_true rfl) rfl (fun r3 X1 Y2 => ?_)
  refine j_aload_n (i := 0) (x := p) (q := 9) d_Pan_roomOf_8 rfl rfl rfl ?_
  refine j_get (v := .ref (p + 1)) (q := 12) d_Pan_roomOf_9 fk_Pan_9 (fv_P1 hp) rfl ?_
  refine j_iload_n (i := 1) (x := x1) (q := 13) d_Pan_roomOf_12 rfl rfl rfl ?_
  refine j_iald (q := 14) d_Pan_roomOf_13 (ai_P1 hp) rfl ?_
  refine j_isub (q := 15) d_Pan_roomOf_14 rfl ?_
  exact j_iret d_Pan_roomOf_15
def l_Pan_sumOf_4 (p : Nat) (w : Nat) (kx : Int32 → Int32 → HI → HL → Option Out) : Nat → Int32 → Int32 → HI → HL → Option Out
  | 0, _, _, _, _ => none
  | n + 1, m2, m3, X, Y =>
    (if (X 3 2) ≤ m3 then
    (kx m2 m3 X Y)
    else
    gd (ixb m3 6) (
    lt (m2 + (X w m3.toNatClampNeg)) (fun v1 =>
    (l_Pan_sumOf_4 p w kx n v1 (m3 + (1 : Int32)) X Y))))
def f_Pan_sumOf (p : Nat) (w : Nat) (X : HI) (Y : HL) : Option Out :=
    (l_Pan_sumOf_4 p w (fun w2 w3 X4 Y5 =>
    (rI w2 X4 Y5)) 256 (0 : Int32) (0 : Int32) X Y)
set_option maxRecDepth 4000 in
theorem jl_Pan_sumOf_4 {K : KK} (hK : kOK K) (p : Nat) (w : Nat) (hp : IsP p) (hw : AI w 6) (kx : Int32 → Int32 → HI → HL → Option Out) (hkx : ∀ (m2 : Int32) (m3 : Int32) (X : HI) (Y : HL), JO K "BrinePans$Pans" prog_5_method_8_code 4 (some .int) rm_Pan_sumOf 0 0 (MZ K) 27 [none, none, some (.int m2), none] [] X Y (kx m2 m3 X Y)) : ∀ (n : Nat) (m2 : Int32) (m3 : Int32) (X : HI) (Y : HL), JO K "BrinePans$Pans" prog_5_method_8_code 4 (some .int) rm_Pan_sumOf 0 0 (MZ K) 4 [some (.ref p), some (.ref w), some (.int m2), some (.int m3)] [] X Y (l_Pan_sumOf_4 p w kx n m2 m3 X Y) := by
  intro n
  induction n with
  | zero =>
    intro m2 m3 X Y
    rw [l_Pan_sumOf_4]
    exact j_none
  | succ n ih =>
    intro m2 m3 X Y
    rw [l_Pan_sumOf_4]
    refine j_iload_n (i := 3) (x := m3) (q := 5) d_Pan_sumOf_4 rfl rfl rfl ?_
    refine j_aload_n (i := 0) (x := p) (q := 6) d_Pan_sumOf_5 rfl rfl rfl ?_
    refine j_get (v := .ref 3) (q := 9) d_Pan_sumOf_6 fk_Pan_28 (fv_P0 hp) rfl ?_
    refine j_get (v := .int (X 3 2)) (q := 12) d_Pan_sumOf_9 fk_Pan_45 fv_3_2 rfl ?_
    refine j_icmp_ge (t := 27) (q := 15) d_Pan_sumOf_12 (by decide) rfl ?_ ?_
    · refine j_sub (L' := [none, none, some (.int m2), none]) ⟨rfl, trivial⟩ ?_
      exact hkx m2 m3 X Y
    · refine j_iload_n (i := 2) (x := m2) (q := 16) d_Pan_sumOf_15 rfl rfl rfl ?_
      refine j_aload_n (i := 1) (x := w) (q := 17) d_Pan_sumOf_16 rfl rfl rfl ?_
      refine j_iload_n (i := 3) (x := m3) (q := 18) d_Pan_sumOf_17 rfl rfl rfl ?_
      refine j_iald (q := 19) d_Pan_sumOf_18 hw rfl ?_
      refine j_iadd (q := 20) d_Pan_sumOf_19 rfl ?_
      refine j_lt (fun v1 => ?_)
      refine j_istore_n (i := 2) (L' := [some (.ref p), some (.ref w), some (.int v1), some (.int m3)]) (q := 21) d_Pan_sumOf_20 rfl (by decide) rfl rfl rfl ?_
      refine j_iinc (i := 3) (x := m3) (d := 1) (L' := [some (.ref p), some (.ref w), some (.int v1), some (.int (m3 + (1 : Int32)))]) (q := 24) d_Pan_sumOf_21 rfl (by decide) (by decide) rfl rfl rfl ?_
      refine j_goto (q := 4) d_Pan_sumOf_24 (by decide) ?_
      refine j_sub (L' := [some (.ref p), some (.ref w), some (.int v1), some (.int (m3 + (1 : Int32)))]) ⟨rfl, ⟨rfl, ⟨rfl, ⟨rfl, trivial⟩⟩⟩⟩ ?_
      exact ih v1 (m3 + (1 : Int32)) X Y
set_option maxRecDepth 4000 in
theorem c_Pan_sumOf {K : KK} (hK : kOK K) (p : Nat) (w : Nat) (hp : IsP p) (hw : AI w 6) (X : HI) (Y : HL) : CT K y_Pan_sumOf prog_5_method_8_code 4 (some .int) rm_Pan_sumOf [.ref p, .ref w] X Y (f_Pan_sumOf p w X Y) := by
  refine ct_of hK (L := [some (.ref p), some (.ref w), none, none]) (by decide) ⟨rfl, ⟨rfl, trivial⟩⟩ (Nat.le_of_ble_eq_true rfl) ?_
  unfold f_Pan_sumOf
  refine j_iconst (v := 0) (q := 1) d_Pan_sumOf_0 (by decide) rfl ?_
  refine j_istore_n (i := 2) (L' := [some (.ref p), some (.ref w), some (.int (0 : Int32)), none]) (q := 2) d_Pan_sumOf_1 rfl (by decide) rfl rfl rfl ?_
  refine j_iconst (v := 0) (q := 3) d_Pan_sumOf_2 (by decide) rfl ?_
  refine j_istore_n (i := 3) (L' := [some (.ref p), some (.ref w), some (.int (0 : Int32)), some (.int (0 : Int32))]) (q := 4) d_Pan_sumOf_3 rfl (by decide) rfl rfl rfl ?_
  refine j_sub (L' := [some (.ref p), some (.ref w), some (.int (0 : Int32)), some (.int (0 : Int32))]) ⟨rfl, ⟨rfl, ⟨rfl, ⟨rfl, trivial⟩⟩⟩⟩ ?_
  refine jl_Pan_sumOf_4 hK p w hp hw _ (fun w2 w3 X4 Y5 => ?_) 256 (0 : Int32) (0 : Int32) X Y
  refine j_iload_n (i := 2) (x := w2) (q := 28) d_Pan_sumOf_27 rfl rfl rfl ?_
  exact j_iret d_Pan_sumOf_28
def l_Pan_crustOfAll_4 (p : Nat) (kx : Int32 → Int32 → HI → HL → Option Out) : Nat → Int32 → Int32 → HI → HL → Option Out
  | 0, _, _, _, _ => none
  | n + 1, m1, m2, X, Y =>
    (if (X 3 2) ≤ m2 then
    (kx m1 m2 X Y)
    else
    bi (f_Pan_crustOf p m2 X Y) (fun r3 X1 Y2 =>
    lt (m1 + r3) (fun v4 =>
    (l_Pan_crustOfAll_4 p kx n v4 (m2 + (1 : Int32)) X1 Y2))))
def f_Pan_crustOfAll (p : Nat) (X : HI) (Y : HL) : Option Out :=
    (l_Pan_crustOfAll_4 p (fun w5 w6 X7 Y8 =>
    (rI w5 X7 Y8)) 256 (0 : Int32) (0 : Int32) X Y)
set_option maxRecDepth 4000 in
theorem jl_Pan_crustOfAll_4 {K : KK} (hK : kOK K) (p : Nat) (hp : IsP p) (kx : Int32 → Int32 → HI → HL → Option Out) (hkx : ∀ (m1 : Int32) (m2 : Int32) (X : HI) (Y : HL), JO K "BrinePans$Pans" prog_5_method_9_code 3 (some .int) rm_Pan_crustOfAll 0 0 (MZ K) 29 [none, some (.int m1), none] [] X Y (kx m1 m2 X Y)) : ∀ (n : Nat) (m1 : Int32) (m2 : Int32) (X : HI) (Y : HL), JO K "BrinePans$Pans" prog_5_method_9_code 3 (some .int) rm_Pan_crustOfAll 0 0 (MZ K) 4 [some (.ref p), some (.int m1), some (.int m2)] [] X Y (l_Pan_crustOfAll_4 p kx n m1 m2 X Y) := by
  intro n
  induction n with
  | zero =>
    intro m1 m2 X Y
    rw [l_Pan_crustOfAll_4]
    exact j_none
  | succ n ih =>
    intro m1 m2 X Y
    rw [l_Pan_crustOfAll_4]
    refine j_iload_n (i := 2) (x := m2) (q := 5) d_Pan_crustOfAll_4 rfl rfl rfl ?_
    refine j_aload_n (i := 0) (x := p) (q := 6) d_Pan_crustOfAll_5 rfl rfl rfl ?_
    refine j_get (v := .ref 3) (q := 9) d_Pan_crustOfAll_6 fk_Pan_28 (fv_P0 hp) rfl ?_
    refine j_get (v := .int (X 3 2)) (q := 12) d_Pan_crustOfAll_9 fk_Pan_45 fv_3_2 rfl ?_
    refine j_icmp_ge (t := 29) (q := 15) d_Pan_crustOfAll_12 (by decide) rfl ?_ ?_
    · refine j_sub (L' := [none, some (.int m1), none]) ⟨rfl, trivial⟩ ?_
      exact hkx m1 m2 X Y
    · refine j_iload_n (i := 1) (x := m1) (q := 16) d_Pan_crustOfAll_15 rfl rfl rfl ?_
      refine j_aload_n (i := 0) (x := p) (q := 17) d_Pan_crustOfAll_16 rfl rfl rfl ?_
      refine j_iload_n (i := 2) (x := m2) (q := 18) d_Pan_crustOfAll_17 rfl rfl rfl ?_
      refine j_callVi (a := p) (S := [.int m1]) (q := 21) [.int m2] d_Pan_crustOfAll_18 mw_Pan_crustOf mv_Pan_crustOf ml_Pan_48 (ob_P hp) rfl rfl (c_Pan_crustOf hK p hp m2 X Y) ⟨⟨rfl, rfl⟩, ⟨Nat.le_of_ble_eq_true rfl, Nat.le_of_ble_eq_true rfl⟩, ⟨Nat.le_refl 0, Nat.le_refl 0⟩⟩ (Nat.le_of_ble_eq_true rfl) rfl (fun r3 X1 Y2 => ?_)
      refine j_iadd (q := 22) d_Pan_crustOfAll_21 rfl ?_
      refine j_lt (fun v4 => ?_)
      refine j_istore_n (i := 1) (L' := [some (.ref p), some (.int v4), some (.int m2)]) (q := 23) d_Pan_crustOfAll_22 rfl (by decide) rfl rfl rfl ?_
      refine j_iinc (i := 2) (x := m2) (d := 1) (L' := [some (.ref p), some (.int v4), some (.int (m2 + (1 : Int32)))]) (q := 26) d_Pan_crustOfAll_23 rfl (by decide) (by decide) rfl rfl rfl ?_
      refine j_goto (q := 4) d_Pan_crustOfAll_26 (by decide) ?_
      refine j_sub (L' := [some (.ref p), some (.int v4), some (.int (m2 + (1 : Int32)))]) ⟨rfl, ⟨rfl, ⟨rfl, trivial⟩⟩⟩ ?_
      exact ih v4 (m2 + (1 : Int32)) X1 Y2
set_option maxRecDepth 4000 in
theorem c_Pan_crustOfAll {K : KK} (hK : kOK K) (p : Nat) (hp : IsP p) (X : HI) (Y : HL) : CT K y_Pan_crustOfAll prog_5_method_9_code 3 (some .int) rm_Pan_crustOfAll [.ref p] X Y (f_Pan_crustOfAll p X Y) := by
  refine ct_of hK (L := [some (.ref p), none, none]) (by decide) ⟨rfl, trivial⟩ (Nat.le_of_ble_eq_true rfl) ?_
  unfold f_Pan_crustOfAll
  refine j_iconst (v := 0) (q := 1) d_Pan_crustOfAll_0 (by decide) rfl ?_
  refine j_istore_n (i := 1) (L' := [some (.ref p), some (.int (0 : Int32)), none]) (q := 2) d_Pan_crustOfAll_1 rfl (by decide) rfl rfl rfl ?_
  refine j_iconst (v := 0) (q := 3) d_Pan_crustOfAll_2 (by decide) rfl ?_
  refine j_istore_n (i := 2) (L' := [some (.ref p), some (.int (0 : Int32)), some (.int (0 : Int32))]) (q := 4) d_Pan_crustOfAll_3 rfl (by decide) rfl rfl rfl ?_
  refine j_sub (L' := [some (.ref p), some (.int (0 : Int32)), some (.int (0 : Int32))]) ⟨rfl, ⟨rfl, ⟨rfl, trivial⟩⟩⟩ ?_
  refine jl_Pan_crustOfAll_4 hK p hp _ (fun w5 w6 X7 Y8 => ?_) 256 (0 : Int32) (0 : Int32) X Y
  refine j_iload_n (i := 1) (x := w5) (q := 30) d_Pan_crustOfAll_29 rfl rfl rfl ?_
  exact j_iret d_Pan_crustOfAll_30
def f_Pan_canRake (p : Nat) (x1 : Int32) (X : HI) (Y : HL) : Option Out :=
    gd (ixb x1 6) (
    (if (1 : Int32) < (X (p + 1) x1.toNatClampNeg) then
    (rI (0 : Int32) X Y)
    else
    bi (f_Pan_crustOf p x1 X Y) (fun r3 X1 Y2 =>
    (if r3 ≤ 0 then
    (rI (0 : Int32) X1 Y2)
    else
    (rI (1 : Int32) X1 Y2)))))
set_option maxRecDepth 4000 in
theorem c_Pan_canRake {K : KK} (hK : kOK K) (p : Nat) (hp : IsP p) (x1 : Int32) (X : HI) (Y : HL) : CT K y_Pan_canRake prog_5_method_10_code 2 (some .boolean) rm_Pan_canRake [.ref p, .int x1] X Y (f_Pan_canRake p x1 X Y) := by
  refine ct_of hK (L := [some (.ref p), some (.int x1)]) (by decide) ⟨rfl, ⟨rfl, trivial⟩⟩ (Nat.le_of_ble_eq_true rfl) ?_
  unfold f_Pan_canRake
  refine j_aload_n (i := 0) (x := p) (q := 1) d_Pan_canRake_0 rfl rfl rfl ?_
  refine j_get (v := .ref (p + 1)) (q := 4) d_Pan_canRake_1 fk_Pan_9 (fv_P1 hp) rfl ?_
  refine j_iload_n (i := 1) (x := x1) (q := 5) d_Pan_canRake_4 rfl rfl rfl ?_
  refine j_iald (q := 6) d_Pan_canRake_5 (ai_P1 hp) rfl ?_
  refine j_iconst (v := 1) (q := 7) d_Pan_canRake_6 (by decide) rfl ?_
  refine j_icmp_gt (t := 22) (q := 10) d_Pan_canRake_7 (by decide) rfl ?_ ?_
  · refine j_iconst (v := 0) (q := 23) d_Pan_canRake_22 (by decide) rfl ?_
    exact j_zret d_Pan_canRake_23 (by decide)
  · refine j_aload_n (i := 0) (x := p) (q := 11) d_Pan_canRake_10 rfl rfl rfl ?_
    refine j_iload_n (i := 1) (x := x1) (q := 12) d_Pan_canRake_11 rfl rfl rfl ?_
    refine j_callVi (a := p) (S := []) (q := 15) [.int x1] d_Pan_canRake_12 mw_Pan_crustOf mv_Pan_crustOf ml_Pan_48 (ob_P hp) rfl rfl (c_Pan_crustOf hK p hp x1 X Y) ⟨⟨rfl, rfl⟩, ⟨Nat.le_of_ble_eq_true rfl, Nat.le_of_ble_eq_true rfl⟩, ⟨Nat.le_refl 0, Nat.le_refl 0⟩⟩ (Nat.le_of_ble_eq_true rfl) rfl (fun r3 X1 Y2 => ?_)
    refine j_if_le (t := 22) (q := 18) d_Pan_canRake_15 (by decide) rfl ?_ ?_
    · refine j_iconst (v := 0) (q := 23) d_Pan_canRake_22 (by decide) rfl ?_
      exact j_zret d_Pan_canRake_23 (by decide)
    · refine j_iconst (v := 1) (q := 19) d_Pan_canRake_18 (by decide) rfl ?_
      refine j_goto (q := 23) d_Pan_canRake_19 (by decide) ?_
      exact j_zret d_Pan_canRake_23 (by decide)
def b_Pan_rakeable_29 (p : Nat) (kc : Int32 → Int32 → HI → HL → Option Out) (kx : Int32 → Int32 → HI → HL → Option Out) (x1 : Int32) (x2 : Int32) (X : HI) (Y : HL) : Option Out :=
    (kc x1 (x2 + (1 : Int32)) X Y)
def l_Pan_rakeable_4 (p : Nat) (kx : Int32 → Int32 → HI → HL → Option Out) : Nat → Int32 → Int32 → HI → HL → Option Out
  | 0, _, _, _, _ => none
  | n + 1, m1, m2, X, Y =>
    (if (X 3 2) ≤ m2 then
    (kx m1 m2 X Y)
    else
    bi (f_Pan_canRake p m2 X Y) (fun r3 X1 Y2 =>
    (if r3 = 0 then
    (b_Pan_rakeable_29 p (fun a1 a2 A B => l_Pan_rakeable_4 p kx n a1 a2 A B) kx m1 m2 X1 Y2)
    else
    lt (m1 ||| ((1 : Int32) <<< (m2 &&& 31))) (fun v4 =>
    (b_Pan_rakeable_29 p (fun a1 a2 A B => l_Pan_rakeable_4 p kx n a1 a2 A B) kx v4 m2 X1 Y2)))))
def f_Pan_rakeable (p : Nat) (X : HI) (Y : HL) : Option Out :=
    (l_Pan_rakeable_4 p (fun w5 w6 X7 Y8 =>
    (rI w5 X7 Y8)) 256 (0 : Int32) (0 : Int32) X Y)
set_option maxRecDepth 4000 in
theorem jb_Pan_rakeable_29 {K : KK} (hK : kOK K) (p : Nat) (hp : IsP p) (kc : Int32 → Int32 → HI → HL → Option Out) (kx : Int32 → Int32 → HI → HL → Option Out) (x1 : Int32) (x2 : Int32) (hkc : ∀ (m1 : Int32) (m2 : Int32) (X : HI) (Y : HL), JO K "BrinePans$Pans" prog_5_method_11_code 3 (some .int) rm_Pan_rakeable 0 0 (MZ K) 4 [some (.ref p), some (.int m1), some (.int m2)] [] X Y (kc m1 m2 X Y)) (hkx : ∀ (m1 : Int32) (m2 : Int32) (X : HI) (Y : HL), JO K "BrinePans$Pans" prog_5_method_11_code 3 (some .int) rm_Pan_rakeable 0 0 (MZ K) 35 [none, some (.int m1), none] [] X Y (kx m1 m2 X Y)) (X : HI) (Y : HL) : JO K "BrinePans$Pans" prog_5_method_11_code 3 (some .int) rm_Pan_rakeable 0 0 (MZ K) 29 [some (.ref p), some (.int x1), some (.int x2)] [] X Y (b_Pan_rakeable_29 p kc kx x1 x2 X Y) := by
  unfold b_Pan_rakeable_29
  refine j_iinc (i := 2) (x := x2) (d := 1) (L' := [some (.ref p), some (.int x1), some (.int (x2 + (1 : Int32)))]) (q := 32) d_Pan_rakeable_29 rfl (by decide) (by decide) rfl rfl rfl ?_
  refine j_goto (q := 4) d_Pan_rakeable_32 (by decide) ?_
  refine j_sub (L' := [some (.ref p), some (.int x1), some (.int (x2 + (1 : Int32)))]) ⟨rfl, ⟨rfl, ⟨rfl, trivial⟩⟩⟩ ?_
  exact hkc x1 (x2 + (1 : Int32)) X Y
set_option maxRecDepth 4000 in
theorem jl_Pan_rakeable_4 {K : KK} (hK : kOK K) (p : Nat) (hp : IsP p) (kx : Int32 → Int32 → HI → HL → Option Out) (hkx : ∀ (m1 : Int32) (m2 : Int32) (X : HI) (Y : HL), JO K "BrinePans$Pans" prog_5_method_11_code 3 (some .int) rm_Pan_rakeable 0 0 (MZ K) 35 [none, some (.int m1), none] [] X Y (kx m1 m2 X Y)) : ∀ (n : Nat) (m1 : Int32) (m2 : Int32) (X : HI) (Y : HL), JO K "BrinePans$Pans" prog_5_method_11_code 3 (some .int) rm_Pan_rakeable 0 0 (MZ K) 4 [some (.ref p), some (.int m1), some (.int m2)] [] X Y (l_Pan_rakeable_4 p kx n m1 m2 X Y) := by
  intro n
  induction n with
  | zero =>
    intro m1 m2 X Y
    rw [l_Pan_rakeable_4]
    exact j_none
  | succ n ih =>
    intro m1 m2 X Y
    rw [l_Pan_rakeable_4]
    refine j_iload_n (i := 2) (x := m2) (q := 5) d_Pan_rakeable_4 rfl rfl rfl ?_
    refine j_aload_n (i := 0) (x := p) (q := 6) d_Pan_rakeable_5 rfl rfl rfl ?_
    refine j_get (v := .ref 3) (q := 9) d_Pan_rakeable_6 fk_Pan_28 (fv_P0 hp) rfl ?_
    refine j_get (v := .int (X 3 2)) (q := 12) d_Pan_rakeable_9 fk_Pan_45 fv_3_2 rfl ?_
    refine j_icmp_ge (t := 35) (q := 15) d_Pan_rakeable_12 (by decide) rfl ?_ ?_
    · refine j_sub (L' := [none, some (.int m1), none]) ⟨rfl, trivial⟩ ?_
      exact hkx m1 m2 X Y
    · refine j_aload_n (i := 0) (x := p) (q := 16) d_Pan_rakeable_15 rfl rfl rfl ?_
      refine j_iload_n (i := 2) (x := m2) (q := 17) d_Pan_rakeable_16 rfl rfl rfl ?_
      refine j_callVi (a := p) (S := []) (q := 20) [.int m2] d_Pan_rakeable_17 mw_Pan_canRake mv_Pan_canRake ml_Pan_51 (ob_P hp) rfl rfl (c_Pan_canRake hK p hp m2 X Y) ⟨⟨rfl, rfl⟩, ⟨Nat.le_of_ble_eq_true rfl, Nat.le_of_ble_eq_true rfl⟩, ⟨Nat.le_refl 0, Nat.le_refl 0⟩⟩ (Nat.le_of_ble_eq_true rfl) rfl (fun r3 X1 Y2 => ?_)
      refine j_if_eq (t := 29) (q := 23) d_Pan_rakeable_20 (by decide) rfl ?_ ?_
      · refine j_sub (L' := [some (.ref p), some (.int m1), some (.int m2)]) ⟨rfl, ⟨rfl, ⟨rfl, trivial⟩⟩⟩ ?_
        exact jb_Pan_rakeable_29 hK p hp (fun a1 a2 A B => l_Pan_rakeable_4 p kx n a1 a2 A B) kx m1 m2 ih hkx X1 Y2
      · refine j_iload_n (i := 1) (x := m1) (q := 24) d_Pan_rakeable_23 rfl rfl rfl ?_
        refine j_iconst (v := 1) (q := 25) d_Pan_rakeable_24 (by decide) rfl ?_
        refine j_iload_n (i := 2) (x := m2) (q := 26) d_Pan_rakeable_25 rfl rfl rfl ?_
        refine j_ishl (q := 27) d_Pan_rakeable_26 rfl ?_
        refine j_ior (q := 28) d_Pan_rakeable_27 rfl ?_
        refine j_lt (fun v4 => ?_)
        refine j_istore_n (i := 1) (L' := [some (.ref p), some (.int v4), some (.int m2)]) (q := 29) d_Pan_rakeable_28 rfl (by decide) rfl rfl rfl ?_
        refine j_sub (L' := [some (.ref p), some (.int v4), some (.int m2)]) ⟨rfl, ⟨rfl, ⟨rfl, trivial⟩⟩⟩ ?_
        exact jb_Pan_rakeable_29 hK p hp (fun a1 a2 A B => l_Pan_rakeable_4 p kx n a1 a2 A B) kx v4 m2 ih hkx X1 Y2
set_option maxRecDepth 4000 in
theorem c_Pan_rakeable {K : KK} (hK : kOK K) (p : Nat) (hp : IsP p) (X : HI) (Y : HL) : CT K y_Pan_rakeable prog_5_method_11_code 3 (some .int) rm_Pan_rakeable [.ref p] X Y (f_Pan_rakeable p X Y) := by
  refine ct_of hK (L := [some (.ref p), none, none]) (by decide) ⟨rfl, trivial⟩ (Nat.le_of_ble_eq_true rfl) ?_
  unfold f_Pan_rakeable
  refine j_iconst (v := 0) (q := 1) d_Pan_rakeable_0 (by decide) rfl ?_
  refine j_istore_n (i := 1) (L' := [some (.ref p), some (.int (0 : Int32)), none]) (q := 2) d_Pan_rakeable_1 rfl (by decide) rfl rfl rfl ?_
  refine j_iconst (v := 0) (q := 3) d_Pan_rakeable_2 (by decide) rfl ?_
  refine j_istore_n (i := 2) (L' := [some (.ref p), some (.int (0 : Int32)), some (.int (0 : Int32))]) (q := 4) d_Pan_rakeable_3 rfl (by decide) rfl rfl rfl ?_
  refine j_sub (L' := [some (.ref p), some (.int (0 : Int32)), some (.int (0 : Int32))]) ⟨rfl, ⟨rfl, ⟨rfl, trivial⟩⟩⟩ ?_
  refine jl_Pan_rakeable_4 hK p hp _ (fun w5 w6 X7 Y8 => ?_) 256 (0 : Int32) (0 : Int32) X Y
  refine j_iload_n (i := 1) (x := w5) (q := 36) d_Pan_rakeable_35 rfl rfl rfl ?_
  exact j_iret d_Pan_rakeable_36
def f_Pan_isOpen (p : Nat) (x1 : Int32) (X : HI) (Y : HL) : Option Out :=
    (if (((X p 3) >>> (x1 &&& 31)) &&& (1 : Int32)) = (1 : Int32) then
    (rI (1 : Int32) X Y)
    else
    (rI (0 : Int32) X Y))
set_option maxRecDepth 4000 in
theorem c_Pan_isOpen {K : KK} (hK : kOK K) (p : Nat) (hp : IsP p) (x1 : Int32) (X : HI) (Y : HL) : CT K y_Pan_isOpen prog_5_method_12_code 2 (some .boolean) rm_Pan_isOpen [.ref p, .int x1] X Y (f_Pan_isOpen p x1 X Y) := by
  refine ct_of hK (L := [some (.ref p), some (.int x1)]) (by decide) ⟨rfl, ⟨rfl, trivial⟩⟩ (Nat.le_of_ble_eq_true rfl) ?_
  unfold f_Pan_isOpen
  refine j_aload_n (i := 0) (x := p) (q := 1) d_Pan_isOpen_0 rfl rfl rfl ?_
  refine j_get (v := .int (X p 3)) (q := 4) d_Pan_isOpen_1 fk_Pan_18 (fv_P3 hp) rfl ?_
  refine j_iload_n (i := 1) (x := x1) (q := 5) d_Pan_isOpen_4 rfl rfl rfl ?_
  refine j_ishr (q := 6) d_Pan_isOpen_5 rfl ?_
  refine j_iconst (v := 1) (q := 7) d_Pan_isOpen_6 (by decide) rfl ?_
  refine j_iand (q := 8) d_Pan_isOpen_7 rfl ?_
  refine j_iconst (v := 1) (q := 9) d_Pan_isOpen_8 (by decide) rfl ?_
  refine j_icmp_ne (t := 16) (q := 12) d_Pan_isOpen_9 (by decide) rfl ?_ ?_
  · refine j_iconst (v := 0) (q := 17) d_Pan_isOpen_16 (by decide) rfl ?_
    exact j_zret d_Pan_isOpen_17 (by decide)
  · refine j_iconst (v := 1) (q := 13) d_Pan_isOpen_12 (by decide) rfl ?_
    refine j_goto (q := 17) d_Pan_isOpen_13 (by decide) ?_
    exact j_zret d_Pan_isOpen_17 (by decide)
def f_Pan_setGate (p : Nat) (x1 : Int32) (x2 : Int32) (X : HI) (Y : HL) : Option Out :=
    bi (f_Pan_isOpen p x1 X Y) (fun r3 X1 Y2 =>
    (if r3 = x2 then
    (rV X1 Y2)
    else
    lh (up X1 p 3 ((X1 p 3) ^^^ ((1 : Int32) <<< (x1 &&& 31)))) (fun X4 =>
    (rV X4 Y2))))
set_option maxRecDepth 4000 in
theorem c_Pan_setGate {K : KK} (hK : kOK K) (p : Nat) (hp : IsP p) (x1 : Int32) (x2 : Int32) (X : HI) (Y : HL) : CT K y_Pan_setGate prog_5_method_13_code 3 none rm_Pan_setGate [.ref p, .int x1, .int x2] X Y (f_Pan_setGate p x1 x2 X Y) := by
  refine ct_of hK (L := [some (.ref p), some (.int x1), some (.int x2)]) (by decide) ⟨rfl, ⟨rfl, ⟨rfl, trivial⟩⟩⟩ (Nat.le_of_ble_eq_true rfl) ?_
  unfold f_Pan_setGate
  refine j_aload_n (i := 0) (x := p) (q := 1) d_Pan_setGate_0 rfl rfl rfl ?_
  refine j_iload_n (i := 1) (x := x1) (q := 2) d_Pan_setGate_1 rfl rfl rfl ?_
  refine j_callVi (a := p) (S := []) (q := 5) [.int x1] d_Pan_setGate_2 mw_Pan_isOpen mv_Pan_isOpen ml_Pan_55 (ob_P hp) rfl rfl (c_Pan_isOpen hK p hp x1 X Y) ⟨⟨rfl, rfl⟩, ⟨Nat.le_of_ble_eq_true rfl, Nat.le_of_ble_eq_true rfl⟩, ⟨Nat.le_refl 0, Nat.le_refl 0⟩⟩ (Nat.le_of_ble_eq_true rfl) rfl (fun r3 X1 Y2 => ?_)
  refine j_iload_n (i := 2) (x := x2) (q := 6) d_Pan_setGate_5 rfl rfl rfl ?_
  refine j_icmp_eq (t := 21) (q := 9) d_Pan_setGate_6 (by decide) rfl ?_ ?_
  · exact j_vret d_Pan_setGate_21
  · refine j_aload_n (i := 0) (x := p) (q := 10) d_Pan_setGate_9 rfl rfl rfl ?_
    refine j_dup (q := 11) d_Pan_setGate_10 rfl rfl ?_
    refine j_get (v := .int (X1 p 3)) (q := 14) d_Pan_setGate_11 fk_Pan_18 (fv_P3 hp) rfl ?_
    refine j_iconst (v := 1) (q := 15) d_Pan_setGate_14 (by decide) rfl ?_
    refine j_iload_n (i := 1) (x := x1) (q := 16) d_Pan_setGate_15 rfl rfl rfl ?_
    refine j_ishl (q := 17) d_Pan_setGate_16 rfl ?_
    refine j_ixor (q := 18) d_Pan_setGate_17 rfl ?_
    refine j_putI (q := 21) d_Pan_setGate_18 fp_Pan_18 (fw_P3 hp) rfl (fun X4 => ?_)
    exact j_vret d_Pan_setGate_21
def f_Pan_drain (p : Nat) (x1 : Int32) (x2 : Int32) (X : HI) (Y : HL) : Option Out :=
    (if x2 < (1 : Int32) then
    (rI (0 : Int32) X Y)
    else
    gd (ixb x1 6) (
    (if x2 ≤ (X (p + 1) x1.toNatClampNeg) then
    bi (f_Pan_brineOf p x1 X Y) (fun r3 X1 Y2 =>
    gd (ixb x1 6) (
    gd (nzb (X1 (p + 1) x1.toNatClampNeg)) (
    lt ((r3 * x2) / (X1 (p + 1) x1.toNatClampNeg)) (fun v4 =>
    gd (ixb x1 6) (
    wr (ixb x1 6) (up X1 (p + 1) x1.toNatClampNeg ((X1 (p + 1) x1.toNatClampNeg) - x2)) (fun X5 =>
    gd (ixb x1 6) (
    wr (ixb x1 6) (up X5 (p + 2) x1.toNatClampNeg ((X5 (p + 2) x1.toNatClampNeg) - v4)) (fun X6 =>
    (rI v4 X6 Y2)))))))))
    else
    (rI (0 : Int32) X Y))))
set_option maxRecDepth 4000 in
theorem c_Pan_drain {K : KK} (hK : kOK K) (p : Nat) (hp : IsP p) (x1 : Int32) (x2 : Int32) (X : HI) (Y : HL) : CT K y_Pan_drain prog_5_method_14_code 4 (some .int) rm_Pan_drain [.ref p, .int x1, .int x2] X Y (f_Pan_drain p x1 x2 X Y) := by
  refine ct_of hK (L := [some (.ref p), some (.int x1), some (.int x2), none]) (by decide) ⟨rfl, ⟨rfl, ⟨rfl, trivial⟩⟩⟩ (Nat.le_of_ble_eq_true rfl) ?_
  unfold f_Pan_drain
  refine j_iload_n (i := 2) (x := x2) (q := 1) d_Pan_drain_0 rfl rfl rfl ?_
  refine j_iconst (v := 1) (q := 2) d_Pan_drain_1 (by decide) rfl ?_
  refine j_icmp_lt (t := 15) (q := 5) d_Pan_drain_2 (by decide) rfl ?_ ?_
  · refine j_iconst (v := 0) (q := 16) d_Pan_drain_15 (by decide) rfl ?_
    exact j_iret d_Pan_drain_16
  · refine j_aload_n (i := 0) (x := p) (q := 6) d_Pan_drain_5 rfl rfl rfl ?_
    refine j_get (v := .ref (p + 1)) (q := 9) d_Pan_drain_6 fk_Pan_9 (fv_P1 hp) rfl ?_
    refine j_iload_n (i := 1) (x := x1) (q := 10) d_Pan_drain_9 rfl rfl rfl ?_
    refine j_iald (q := 11) d_Pan_drain_10 (ai_P1 hp) rfl ?_
    refine j_iload_n (i := 2) (x := x2) (q := 12) d_Pan_drain_11 rfl rfl rfl ?_
    refine j_icmp_ge (t := 17) (q := 15) d_Pan_drain_12 (by decide) rfl ?_ ?_
    · refine j_aload_n (i := 0) (x := p) (q := 18) d_Pan_drain_17 rfl rfl rfl ?_
      refine j_iload_n (i := 1) (x := x1) (q := 19) d_Pan_drain_18 rfl rfl rfl ?_
      refine j_callVi (a := p) (S := []) (q := 22) [.int x1] d_Pan_drain_19 mw_Pan_brineOf mv_Pan_brineOf ml_Pan_36 (ob_P hp) rfl rfl (c_Pan_brineOf hK p hp x1 X Y) ⟨⟨rfl, rfl⟩, ⟨Nat.le_of_ble_eq_true rfl, Nat.le_of_ble_eq_true rfl⟩, ⟨Nat.le_refl 0, Nat.le_refl 0⟩⟩ (Nat.le_of_ble_eq_true rfl) rfl (fun r3 X1 Y2 => ?_)
      refine j_iload_n (i := 2) (x := x2) (q := 23) d_Pan_drain_22 rfl rfl rfl ?_
      refine j_imul (q := 24) d_Pan_drain_23 rfl ?_
      refine j_aload_n (i := 0) (x := p) (q := 25) d_Pan_drain_24 rfl rfl rfl ?_
      refine j_get (v := .ref (p + 1)) (q := 28) d_Pan_drain_25 fk_Pan_9 (fv_P1 hp) rfl ?_
      refine j_iload_n (i := 1) (x := x1) (q := 29) d_Pan_drain_28 rfl rfl rfl ?_
      refine j_iald (q := 30) d_Pan_drain_29 (ai_P1 hp) rfl ?_
      refine j_idiv (q := 31) d_Pan_drain_30 rfl ?_
      refine j_lt (fun v4 => ?_)
      refine j_istore_n (i := 3) (L' := [some (.ref p), some (.int x1), some (.int x2), some (.int v4)]) (q := 32) d_Pan_drain_31 rfl (by decide) rfl rfl rfl ?_
      refine j_aload_n (i := 0) (x := p) (q := 33) d_Pan_drain_32 rfl rfl rfl ?_
      refine j_get (v := .ref (p + 1)) (q := 36) d_Pan_drain_33 fk_Pan_9 (fv_P1 hp) rfl ?_
      refine j_iload_n (i := 1) (x := x1) (q := 37) d_Pan_drain_36 rfl rfl rfl ?_
      refine j_dup2 (q := 38) d_Pan_drain_37 rfl rfl rfl ?_
      refine j_iald (q := 39) d_Pan_drain_38 (ai_P1 hp) rfl ?_
      refine j_iload_n (i := 2) (x := x2) (q := 40) d_Pan_drain_39 rfl rfl rfl ?_
      refine j_isub (q := 41) d_Pan_drain_40 rfl ?_
      refine j_iast (q := 42) d_Pan_drain_41 (ai_P1 hp) rfl (fun X5 => ?_)
      refine j_aload_n (i := 0) (x := p) (q := 43) d_Pan_drain_42 rfl rfl rfl ?_
      refine j_get (v := .ref (p + 2)) (q := 46) d_Pan_drain_43 fk_Pan_15 (fv_P2 hp) rfl ?_
      refine j_iload_n (i := 1) (x := x1) (q := 47) d_Pan_drain_46 rfl rfl rfl ?_
      refine j_dup2 (q := 48) d_Pan_drain_47 rfl rfl rfl ?_
      refine j_iald (q := 49) d_Pan_drain_48 (ai_P2 hp) rfl ?_
      refine j_iload_n (i := 3) (x := v4) (q := 50) d_Pan_drain_49 rfl rfl rfl ?_
      refine j_isub (q := 51) d_Pan_drain_50 rfl ?_
      refine j_iast (q := 52) d_Pan_drain_51 (ai_P2 hp) rfl (fun X6 => ?_)
      refine j_iload_n (i := 3) (x := v4) (q := 53) d_Pan_drain_52 rfl rfl rfl ?_
      exact j_iret d_Pan_drain_53
    · refine j_iconst (v := 0) (q := 16) d_Pan_drain_15 (by decide) rfl ?_
      exact j_iret d_Pan_drain_16
def f_Pan_fill (p : Nat) (x1 : Int32) (x2 : Int32) (x3 : Int32) (X : HI) (Y : HL) : Option Out :=
    gd (ixb x1 6) (
    wr (ixb x1 6) (up X (p + 1) x1.toNatClampNeg ((X (p + 1) x1.toNatClampNeg) + x2)) (fun X1 =>
    gd (ixb x1 6) (
    bi (f_Mth_min (999 : Int32) ((X1 (p + 2) x1.toNatClampNeg) + x3) X1 Y) (fun r4 X2 Y3 =>
    wr (ixb x1 6) (up X2 (p + 2) x1.toNatClampNeg r4) (fun X5 =>
    (rV X5 Y3))))))
set_option maxRecDepth 4000 in
theorem c_Pan_fill {K : KK} (hK : kOK K) (p : Nat) (hp : IsP p) (x1 : Int32) (x2 : Int32) (x3 : Int32) (X : HI) (Y : HL) : CT K y_Pan_fill prog_5_method_15_code 4 none rm_Pan_fill [.ref p, .int x1, .int x2, .int x3] X Y (f_Pan_fill p x1 x2 x3 X Y) := by
  refine ct_of hK (L := [some (.ref p), some (.int x1), some (.int x2), some (.int x3)]) (by decide) ⟨rfl, ⟨rfl, ⟨rfl, ⟨rfl, trivial⟩⟩⟩⟩ (Nat.le_of_ble_eq_true rfl) ?_
  unfold f_Pan_fill
  refine j_aload_n (i := 0) (x := p) (q := 1) d_Pan_fill_0 rfl rfl rfl ?_
  refine j_get (v := .ref (p + 1)) (q := 4) d_Pan_fill_1 fk_Pan_9 (fv_P1 hp) rfl ?_
  refine j_iload_n (i := 1) (x := x1) (q := 5) d_Pan_fill_4 rfl rfl rfl ?_
  refine j_dup2 (q := 6) d_Pan_fill_5 rfl rfl rfl ?_
  refine j_iald (q := 7) d_Pan_fill_6 (ai_P1 hp) rfl ?_
  refine j_iload_n (i := 2) (x := x2) (q := 8) d_Pan_fill_7 rfl rfl rfl ?_
  refine j_iadd (q := 9) d_Pan_fill_8 rfl ?_
  refine j_iast (q := 10) d_Pan_fill_9 (ai_P1 hp) rfl (fun X1 => ?_)
  refine j_aload_n (i := 0) (x := p) (q := 11) d_Pan_fill_10 rfl rfl rfl ?_
  refine j_get (v := .ref (p + 2)) (q := 14) d_Pan_fill_11 fk_Pan_15 (fv_P2 hp) rfl ?_
  refine j_iload_n (i := 1) (x := x1) (q := 15) d_Pan_fill_14 rfl rfl rfl ?_
  refine j_sipush (v := 999) (q := 18) d_Pan_fill_15 (by decide +kernel) rfl ?_
  refine j_aload_n (i := 0) (x := p) (q := 19) d_Pan_fill_18 rfl rfl rfl ?_
  refine j_get (v := .ref (p + 2)) (q := 22) d_Pan_fill_19 fk_Pan_15 (fv_P2 hp) rfl ?_
  refine j_iload_n (i := 1) (x := x1) (q := 23) d_Pan_fill_22 rfl rfl rfl ?_
  refine j_iald (q := 24) d_Pan_fill_23 (ai_P2 hp) rfl ?_
  refine j_iload_n (i := 3) (x := x3) (q := 25) d_Pan_fill_24 rfl rfl rfl ?_
  refine j_iadd (q := 26) d_Pan_fill_25 rfl ?_
  refine j_callSi (S := [.int x1, .ref (p + 2)]) (q := 29) [.int (999 : Int32), .int ((X1 (p + 2) x1.toNatClampNeg) + x3)] d_Pan_fill_26 mw_Mth_min ms_Mth_min ml_Pan_58 rfl rfl (c_Mth_min hK (999 : Int32) ((X1 (p + 2) x1.toNatClampNeg) + x3) X1 Y) ⟨⟨rfl, rfl⟩, ⟨Nat.le_of_ble_eq_true rfl, Nat.le_of_ble_eq_true rfl⟩, ⟨Nat.le_refl 0, Nat.le_refl 0⟩⟩ (Nat.le_of_ble_eq_true rfl) rfl (fun r4 X2 Y3 => ?_)
  refine j_iast (q := 30) d_Pan_fill_29 (ai_P2 hp) rfl (fun X5 => ?_)
  exact j_vret d_Pan_fill_30
def f_Pan_takeSea (p : Nat) (x1 : Int32) (X : HI) (Y : HL) : Option Out :=
    bi (f_Gro_hasPan (0 : Int32) X Y) (fun r3 X1 Y2 =>
    (if r3 = 0 then
    (rI (-1 : Int32) X1 Y2)
    else
    bi (f_Bri_isFromTo x1 (1 : Int32) (9 : Int32) X1 Y2) (fun r6 X4 Y5 =>
    (if r6 = 0 then
    (rI (-2 : Int32) X4 Y5)
    else
    bi (f_Pan_roomOf p (0 : Int32) X4 Y5) (fun r9 X7 Y8 =>
    (if x1 ≤ r9 then
    bv (f_Pan_fill p (0 : Int32) x1 ((2 : Int32) * x1) X7 Y8) (fun X10 Y11 =>
    gd (ixb (0 : Int32) 6) (
    (rI (X10 (p + 1) (0 : Int32).toNatClampNeg) X10 Y11)))
    else
    (rI (-4 : Int32) X7 Y8)))))))
set_option maxRecDepth 4000 in
theorem c_Pan_takeSea {K : KK} (hK : kOK K) (p : Nat) (hp : IsP p) (x1 : Int32) (X : HI) (Y : HL) : CT K y_Pan_takeSea prog_5_method_16_code 2 (some .int) rm_Pan_takeSea [.ref p, .int x1] X Y (f_Pan_takeSea p x1 X Y) := by
  refine ct_of hK (L := [some (.ref p), some (.int x1)]) (by decide) ⟨rfl, ⟨rfl, trivial⟩⟩ (Nat.le_of_ble_eq_true rfl) ?_
  unfold f_Pan_takeSea
  refine j_aload_n (i := 0) (x := p) (q := 1) d_Pan_takeSea_0 rfl rfl rfl ?_
  refine j_get (v := .ref 3) (q := 4) d_Pan_takeSea_1 fk_Pan_28 (fv_P0 hp) rfl ?_
  refine j_iconst (v := 0) (q := 5) d_Pan_takeSea_4 (by decide) rfl ?_
  refine j_callVNi (a := 3) (S := []) (q := 8) [.int (0 : Int32)] d_Pan_takeSea_5 mw_Gro_hasPan mv_Gro_hasPan ml_Pan_64 ob_3 rfl rfl (c_Gro_hasPan hK (0 : Int32) X Y) ⟨⟨rfl, rfl⟩, ⟨Nat.le_of_ble_eq_true rfl, Nat.le_of_ble_eq_true rfl⟩, ⟨Nat.le_refl 0, Nat.le_refl 0⟩⟩ (Nat.le_of_ble_eq_true rfl) rfl (fun r3 X1 Y2 => ?_)
  refine j_if_ne (t := 13) (q := 11) d_Pan_takeSea_8 (by decide) rfl ?_ ?_
  · refine j_iload_n (i := 1) (x := x1) (q := 14) d_Pan_takeSea_13 rfl rfl rfl ?_
    refine j_iconst (v := 1) (q := 15) d_Pan_takeSea_14 (by decide) rfl ?_
    refine j_bipush (v := 9) (q := 17) d_Pan_takeSea_15 (by decide +kernel) rfl ?_
    refine j_callSNi (S := []) (q := 20) [.int x1, .int (1 : Int32), .int (9 : Int32)] d_Pan_takeSea_17 mw_Bri_isFromTo ms_Bri_isFromTo ml_Pan_67 rfl rfl (c_Bri_isFromTo hK x1 (1 : Int32) (9 : Int32) X1 Y2) ⟨⟨rfl, rfl⟩, ⟨Nat.le_of_ble_eq_true rfl, Nat.le_of_ble_eq_true rfl⟩, ⟨Nat.le_refl 0, Nat.le_refl 0⟩⟩ (Nat.le_of_ble_eq_true rfl) rfl (fun r6 X4 Y5 => ?_)
    refine j_if_ne (t := 26) (q := 23) d_Pan_takeSea_20 (by decide) rfl ?_ ?_
    · refine j_aload_n (i := 0) (x := p) (q := 27) d_Pan_takeSea_26 rfl rfl rfl ?_
      refine j_iconst (v := 0) (q := 28) d_Pan_takeSea_27 (by decide) rfl ?_
      refine j_callVi (a := p) (S := []) (q := 31) [.int (0 : Int32)] d_Pan_takeSea_28 mw_Pan_roomOf mv_Pan_roomOf ml_Pan_71 (ob_P hp) rfl rfl (c_Pan_roomOf hK p hp (0 : Int32) X4 Y5) ⟨⟨rfl, rfl⟩, ⟨Nat.le_of_ble_eq_true rfl, Nat.le_of_ble_eq_true rfl⟩, ⟨Nat.le_refl 0, Nat.le_refl 0⟩⟩ (Nat.le_of_ble_eq_true rfl) rfl (fun r9 X7 Y8 => ?_)
      refine j_iload_n (i := 1) (x := x1) (q := 32) d_Pan_takeSea_31 rfl rfl rfl ?_
      refine j_icmp_ge (t := 38) (q := 35) d_Pan_takeSea_32 (by decide) rfl ?_ ?_
      · refine j_aload_n (i := 0) (x := p) (q := 39) d_Pan_takeSea_38 rfl rfl rfl ?_
        refine j_iconst (v := 0) (q := 40) d_Pan_takeSea_39 (by decide) rfl ?_
        refine j_iload_n (i := 1) (x := x1) (q := 41) d_Pan_takeSea_40 rfl rfl rfl ?_
        refine j_iconst (v := 2) (q := 42) d_Pan_takeSea_41 (by decide) rfl ?_
        refine j_iload_n (i := 1) (x := x1) (q := 43) d_Pan_takeSea_42 rfl rfl rfl ?_
        refine j_imul (q := 44) d_Pan_takeSea_43 rfl ?_
        refine j_callVv (a := p) (S := []) (q := 47) [.int (0 : Int32), .int x1, .int ((2 : Int32) * x1)] d_Pan_takeSea_44 mw_Pan_fill mv_Pan_fill ml_Pan_74 (ob_P hp) rfl rfl (c_Pan_fill hK p hp (0 : Int32) x1 ((2 : Int32) * x1) X7 Y8) ⟨⟨rfl, rfl⟩, ⟨Nat.le_of_ble_eq_true rfl, Nat.le_of_ble_eq_true rfl⟩, ⟨Nat.le_refl 0, Nat.le_refl 0⟩⟩ (Nat.le_of_ble_eq_true rfl) rfl (fun X10 Y11 => ?_)
        refine j_aload_n (i := 0) (x := p) (q := 48) d_Pan_takeSea_47 rfl rfl rfl ?_
        refine j_get (v := .ref (p + 1)) (q := 51) d_Pan_takeSea_48 fk_Pan_9 (fv_P1 hp) rfl ?_
        refine j_iconst (v := 0) (q := 52) d_Pan_takeSea_51 (by decide) rfl ?_
        refine j_iald (q := 53) d_Pan_takeSea_52 (ai_P1 hp) rfl ?_
        exact j_iret d_Pan_takeSea_53
      · refine j_bipush (v := -4) (q := 37) d_Pan_takeSea_35 (by decide +kernel) rfl ?_
        exact j_iret d_Pan_takeSea_37
    · refine j_bipush (v := -2) (q := 25) d_Pan_takeSea_23 (by decide +kernel) rfl ?_
      exact j_iret d_Pan_takeSea_25
  · refine j_iconst (v := -1) (q := 12) d_Pan_takeSea_11 (by decide) rfl ?_
    exact j_iret d_Pan_takeSea_12
def f_Pan_letOn (p : Nat) (x1 : Int32) (x2 : Int32) (X : HI) (Y : HL) : Option Out :=
    bi (f_Gro_hasGate x1 X Y) (fun r3 X1 Y2 =>
    (if r3 = 0 then
    (rI (-1 : Int32) X1 Y2)
    else
    bi (f_Bri_isFromTo x2 (1 : Int32) (9 : Int32) X1 Y2) (fun r6 X4 Y5 =>
    (if r6 = 0 then
    (rI (-2 : Int32) X4 Y5)
    else
    gd (ixb x1 6) (
    (if x2 ≤ (X4 (p + 1) x1.toNatClampNeg) then
    bi (f_Pan_roomOf p (x1 + (1 : Int32)) X4 Y5) (fun r9 X7 Y8 =>
    (if x2 ≤ r9 then
    bi (f_Pan_drain p x1 x2 X7 Y8) (fun r12 X10 Y11 =>
    bv (f_Pan_fill p (x1 + (1 : Int32)) x2 r12 X10 Y11) (fun X13 Y14 =>
    (rI r12 X13 Y14)))
    else
    (rI (-4 : Int32) X7 Y8)))
    else
    (rI (-3 : Int32) X4 Y5)))))))
set_option maxRecDepth 4000 in
theorem c_Pan_letOn {K : KK} (hK : kOK K) (p : Nat) (hp : IsP p) (x1 : Int32) (x2 : Int32) (X : HI) (Y : HL) : CT K y_Pan_letOn prog_5_method_17_code 4 (some .int) rm_Pan_letOn [.ref p, .int x1, .int x2] X Y (f_Pan_letOn p x1 x2 X Y) := by
  refine ct_of hK (L := [some (.ref p), some (.int x1), some (.int x2), none]) (by decide) ⟨rfl, ⟨rfl, ⟨rfl, trivial⟩⟩⟩ (Nat.le_of_ble_eq_true rfl) ?_
  unfold f_Pan_letOn
  refine j_aload_n (i := 0) (x := p) (q := 1) d_Pan_letOn_0 rfl rfl rfl ?_
  refine j_get (v := .ref 3) (q := 4) d_Pan_letOn_1 fk_Pan_28 (fv_P0 hp) rfl ?_
  refine j_iload_n (i := 1) (x := x1) (q := 5) d_Pan_letOn_4 rfl rfl rfl ?_
  refine j_callVNi (a := 3) (S := []) (q := 8) [.int x1] d_Pan_letOn_5 mw_Gro_hasGate mv_Gro_hasGate ml_Pan_78 ob_3 rfl rfl (c_Gro_hasGate hK x1 X Y) ⟨⟨rfl, rfl⟩, ⟨Nat.le_of_ble_eq_true rfl, Nat.le_of_ble_eq_true rfl⟩, ⟨Nat.le_refl 0, Nat.le_refl 0⟩⟩ (Nat.le_of_ble_eq_true rfl) rfl (fun r3 X1 Y2 => ?_)
  refine j_if_ne (t := 13) (q := 11) d_Pan_letOn_8 (by decide) rfl ?_ ?_
  · refine j_iload_n (i := 2) (x := x2) (q := 14) d_Pan_letOn_13 rfl rfl rfl ?_
    refine j_iconst (v := 1) (q := 15) d_Pan_letOn_14 (by decide) rfl ?_
    refine j_bipush (v := 9) (q := 17) d_Pan_letOn_15 (by decide +kernel) rfl ?_
    refine j_callSNi (S := []) (q := 20) [.int x2, .int (1 : Int32), .int (9 : Int32)] d_Pan_letOn_17 mw_Bri_isFromTo ms_Bri_isFromTo ml_Pan_67 rfl rfl (c_Bri_isFromTo hK x2 (1 : Int32) (9 : Int32) X1 Y2) ⟨⟨rfl, rfl⟩, ⟨Nat.le_of_ble_eq_true rfl, Nat.le_of_ble_eq_true rfl⟩, ⟨Nat.le_refl 0, Nat.le_refl 0⟩⟩ (Nat.le_of_ble_eq_true rfl) rfl (fun r6 X4 Y5 => ?_)
    refine j_if_ne (t := 26) (q := 23) d_Pan_letOn_20 (by decide) rfl ?_ ?_
    · refine j_aload_n (i := 0) (x := p) (q := 27) d_Pan_letOn_26 rfl rfl rfl ?_
      refine j_get (v := .ref (p + 1)) (q := 30) d_Pan_letOn_27 fk_Pan_9 (fv_P1 hp) rfl ?_
      refine j_iload_n (i := 1) (x := x1) (q := 31) d_Pan_letOn_30 rfl rfl rfl ?_
      refine j_iald (q := 32) d_Pan_letOn_31 (ai_P1 hp) rfl ?_
      refine j_iload_n (i := 2) (x := x2) (q := 33) d_Pan_letOn_32 rfl rfl rfl ?_
      refine j_icmp_ge (t := 39) (q := 36) d_Pan_letOn_33 (by decide) rfl ?_ ?_
      · refine j_aload_n (i := 0) (x := p) (q := 40) d_Pan_letOn_39 rfl rfl rfl ?_
        refine j_iload_n (i := 1) (x := x1) (q := 41) d_Pan_letOn_40 rfl rfl rfl ?_
        refine j_iconst (v := 1) (q := 42) d_Pan_letOn_41 (by decide) rfl ?_
        refine j_iadd (q := 43) d_Pan_letOn_42 rfl ?_
        refine j_callVi (a := p) (S := []) (q := 46) [.int (x1 + (1 : Int32))] d_Pan_letOn_43 mw_Pan_roomOf mv_Pan_roomOf ml_Pan_71 (ob_P hp) rfl rfl (c_Pan_roomOf hK p hp (x1 + (1 : Int32)) X4 Y5) ⟨⟨rfl, rfl⟩, ⟨Nat.le_of_ble_eq_true rfl, Nat.le_of_ble_eq_true rfl⟩, ⟨Nat.le_refl 0, Nat.le_refl 0⟩⟩ (Nat.le_of_ble_eq_true rfl) rfl (fun r9 X7 Y8 => ?_)
        refine j_iload_n (i := 2) (x := x2) (q := 47) d_Pan_letOn_46 rfl rfl rfl ?_
        refine j_icmp_ge (t := 53) (q := 50) d_Pan_letOn_47 (by decide) rfl ?_ ?_
        · refine j_aload_n (i := 0) (x := p) (q := 54) d_Pan_letOn_53 rfl rfl rfl ?_
          refine j_iload_n (i := 1) (x := x1) (q := 55) d_Pan_letOn_54 rfl rfl rfl ?_
          refine j_iload_n (i := 2) (x := x2) (q := 56) d_Pan_letOn_55 rfl rfl rfl ?_
          refine j_callVi (a := p) (S := []) (q := 59) [.int x1, .int x2] d_Pan_letOn_56 mw_Pan_drain mv_Pan_drain ml_Pan_81 (ob_P hp) rfl rfl (c_Pan_drain hK p hp x1 x2 X7 Y8) ⟨⟨rfl, rfl⟩, ⟨Nat.le_of_ble_eq_true rfl, Nat.le_of_ble_eq_true rfl⟩, ⟨Nat.le_refl 0, Nat.le_refl 0⟩⟩ (Nat.le_of_ble_eq_true rfl) rfl (fun r12 X10 Y11 => ?_)
          refine j_istore_n (i := 3) (L' := [some (.ref p), some (.int x1), some (.int x2), some (.int r12)]) (q := 60) d_Pan_letOn_59 rfl (by decide) rfl rfl rfl ?_
          refine j_aload_n (i := 0) (x := p) (q := 61) d_Pan_letOn_60 rfl rfl rfl ?_
          refine j_iload_n (i := 1) (x := x1) (q := 62) d_Pan_letOn_61 rfl rfl rfl ?_
          refine j_iconst (v := 1) (q := 63) d_Pan_letOn_62 (by decide) rfl ?_
          refine j_iadd (q := 64) d_Pan_letOn_63 rfl ?_
          refine j_iload_n (i := 2) (x := x2) (q := 65) d_Pan_letOn_64 rfl rfl rfl ?_
          refine j_iload_n (i := 3) (x := r12) (q := 66) d_Pan_letOn_65 rfl rfl rfl ?_
          refine j_callVv (a := p) (S := []) (q := 69) [.int (x1 + (1 : Int32)), .int x2, .int r12] d_Pan_letOn_66 mw_Pan_fill mv_Pan_fill ml_Pan_74 (ob_P hp) rfl rfl (c_Pan_fill hK p hp (x1 + (1 : Int32)) x2 r12 X10 Y11) ⟨⟨rfl, rfl⟩, ⟨Nat.le_of_ble_eq_true rfl, Nat.le_of_ble_eq_true rfl⟩, ⟨Nat.le_refl 0, Nat.le_refl 0⟩⟩ (Nat.le_of_ble_eq_true rfl) rfl (fun X13 Y14 => ?_)
          refine j_iload_n (i := 3) (x := r12) (q := 70) d_Pan_letOn_69 rfl rfl rfl ?_
          exact j_iret d_Pan_letOn_70
        · refine j_bipush (v := -4) (q := 52) d_Pan_letOn_50 (by decide +kernel) rfl ?_
          exact j_iret d_Pan_letOn_52
      · refine j_bipush (v := -3) (q := 38) d_Pan_letOn_36 (by decide +kernel) rfl ?_
        exact j_iret d_Pan_letOn_38
    · refine j_bipush (v := -2) (q := 25) d_Pan_letOn_23 (by decide +kernel) rfl ?_
      exact j_iret d_Pan_letOn_25
  · refine j_iconst (v := -1) (q := 12) d_Pan_letOn_11 (by decide) rfl ?_
    exact j_iret d_Pan_letOn_12
def b_Pan_turnGate_28 (p : Nat) (x1 : Int32) (s0 : Int32) (s1 : Int32) (X : HI) (Y : HL) : Option Out :=
    bv (f_Pan_setGate p s1 s0 X Y) (fun X7 Y8 =>
    bi (f_Pan_isOpen p x1 X7 Y8) (fun r11 X9 Y10 =>
    (if r11 = 0 then
    (rI (0 : Int32) X9 Y10)
    else
    (rI (1 : Int32) X9 Y10))))
def f_Pan_turnGate (p : Nat) (x1 : Int32) (X : HI) (Y : HL) : Option Out :=
    bi (f_Gro_hasGate x1 X Y) (fun r3 X1 Y2 =>
    (if r3 = 0 then
    (rI (-1 : Int32) X1 Y2)
    else
    bi (f_Pan_isOpen p x1 X1 Y2) (fun r6 X4 Y5 =>
    (if r6 = 0 then
    (b_Pan_turnGate_28 p x1 (1 : Int32) x1 X4 Y5)
    else
    (b_Pan_turnGate_28 p x1 (0 : Int32) x1 X4 Y5)))))
set_option maxRecDepth 4000 in
theorem jb_Pan_turnGate_28 {K : KK} (hK : kOK K) (p : Nat) (hp : IsP p) (x1 : Int32) (s0 : Int32) (s1 : Int32) (X : HI) (Y : HL) : JO K "BrinePans$Pans" prog_5_method_18_code 2 (some .int) rm_Pan_turnGate 0 0 (MZ K) 28 [some (.ref p), some (.int x1)] [.int s0, .int s1, .ref p] X Y (b_Pan_turnGate_28 p x1 s0 s1 X Y) := by
  unfold b_Pan_turnGate_28
  refine j_callVv (a := p) (S := []) (q := 31) [.int s1, .int s0] d_Pan_turnGate_28 mw_Pan_setGate mv_Pan_setGate ml_Pan_84 (ob_P hp) rfl rfl (c_Pan_setGate hK p hp s1 s0 X Y) ⟨⟨rfl, rfl⟩, ⟨Nat.le_of_ble_eq_true rfl, Nat.le_of_ble_eq_true rfl⟩, ⟨Nat.le_refl 0, Nat.le_refl 0⟩⟩ (Nat.le_of_ble_eq_true rfl) rfl (fun X7 Y8 => ?_)
  refine j_aload_n (i := 0) (x := p) (q := 32) d_Pan_turnGate_31 rfl rfl rfl ?_
  refine j_iload_n (i := 1) (x := x1) (q := 33) d_Pan_turnGate_32 rfl rfl rfl ?_
  refine j_callVi (a := p) (S := []) (q := 36) [.int x1] d_Pan_turnGate_33 mw_Pan_isOpen mv_Pan_isOpen ml_Pan_55 (ob_P hp) rfl rfl (c_Pan_isOpen hK p hp x1 X7 Y8) ⟨⟨rfl, rfl⟩, ⟨Nat.le_of_ble_eq_true rfl, Nat.le_of_ble_eq_true rfl⟩, ⟨Nat.le_refl 0, Nat.le_refl 0⟩⟩ (Nat.le_of_ble_eq_true rfl) rfl (fun r11 X9 Y10 => ?_)
  refine j_if_eq (t := 43) (q := 39) d_Pan_turnGate_36 (by decide) rfl ?_ ?_
  · refine j_iconst (v := 0) (q := 44) d_Pan_turnGate_43 (by decide) rfl ?_
    exact j_iret d_Pan_turnGate_44
  · refine j_iconst (v := 1) (q := 40) d_Pan_turnGate_39 (by decide) rfl ?_
    refine j_goto (q := 44) d_Pan_turnGate_40 (by decide) ?_
    exact j_iret d_Pan_turnGate_44
set_option maxRecDepth 4000 in
theorem c_Pan_turnGate {K : KK} (hK : kOK K) (p : Nat) (hp : IsP p) (x1 : Int32) (X : HI) (Y : HL) : CT K y_Pan_turnGate prog_5_method_18_code 2 (some .int) rm_Pan_turnGate [.ref p, .int x1] X Y (f_Pan_turnGate p x1 X Y) := by
  refine ct_of hK (L := [some (.ref p), some (.int x1)]) (by decide) ⟨rfl, ⟨rfl, trivial⟩⟩ (Nat.le_of_ble_eq_true rfl) ?_
  unfold f_Pan_turnGate
  refine j_aload_n (i := 0) (x := p) (q := 1) d_Pan_turnGate_0 rfl rfl rfl ?_
  refine j_get (v := .ref 3) (q := 4) d_Pan_turnGate_1 fk_Pan_28 (fv_P0 hp) rfl ?_
  refine j_iload_n (i := 1) (x := x1) (q := 5) d_Pan_turnGate_4 rfl rfl rfl ?_
  refine j_callVNi (a := 3) (S := []) (q := 8) [.int x1] d_Pan_turnGate_5 mw_Gro_hasGate mv_Gro_hasGate ml_Pan_78 ob_3 rfl rfl (c_Gro_hasGate hK x1 X Y) ⟨⟨rfl, rfl⟩, ⟨Nat.le_of_ble_eq_true rfl, Nat.le_of_ble_eq_true rfl⟩, ⟨Nat.le_refl 0, Nat.le_refl 0⟩⟩ (Nat.le_of_ble_eq_true rfl) rfl (fun r3 X1 Y2 => ?_)
  refine j_if_ne (t := 13) (q := 11) d_Pan_turnGate_8 (by decide) rfl ?_ ?_
  · refine j_aload_n (i := 0) (x := p) (q := 14) d_Pan_turnGate_13 rfl rfl rfl ?_
    refine j_iload_n (i := 1) (x := x1) (q := 15) d_Pan_turnGate_14 rfl rfl rfl ?_
    refine j_aload_n (i := 0) (x := p) (q := 16) d_Pan_turnGate_15 rfl rfl rfl ?_
    refine j_iload_n (i := 1) (x := x1) (q := 17) d_Pan_turnGate_16 rfl rfl rfl ?_
    refine j_callVi (a := p) (S := [.int x1, .ref p]) (q := 20) [.int x1] d_Pan_turnGate_17 mw_Pan_isOpen mv_Pan_isOpen ml_Pan_55 (ob_P hp) rfl rfl (c_Pan_isOpen hK p hp x1 X1 Y2) ⟨⟨rfl, rfl⟩, ⟨Nat.le_of_ble_eq_true rfl, Nat.le_of_ble_eq_true rfl⟩, ⟨Nat.le_refl 0, Nat.le_refl 0⟩⟩ (Nat.le_of_ble_eq_true rfl) rfl (fun r6 X4 Y5 => ?_)
    refine j_if_ne (t := 27) (q := 23) d_Pan_turnGate_20 (by decide) rfl ?_ ?_
    · refine j_iconst (v := 0) (q := 28) d_Pan_turnGate_27 (by decide) rfl ?_
      refine j_sub (L' := [some (.ref p), some (.int x1)]) ⟨rfl, ⟨rfl, trivial⟩⟩ ?_
      exact jb_Pan_turnGate_28 hK p hp x1 (0 : Int32) x1 X4 Y5
    · refine j_iconst (v := 1) (q := 24) d_Pan_turnGate_23 (by decide) rfl ?_
      refine j_goto (q := 28) d_Pan_turnGate_24 (by decide) ?_
      refine j_sub (L' := [some (.ref p), some (.int x1)]) ⟨rfl, ⟨rfl, trivial⟩⟩ ?_
      exact jb_Pan_turnGate_28 hK p hp x1 (1 : Int32) x1 X4 Y5
  · refine j_iconst (v := -1) (q := 12) d_Pan_turnGate_11 (by decide) rfl ?_
    exact j_iret d_Pan_turnGate_12
def f_Pan_rakeUp (p : Nat) (x1 : Int32) (X : HI) (Y : HL) : Option Out :=
    bi (f_Gro_hasPan x1 X Y) (fun r3 X1 Y2 =>
    (if r3 = 0 then
    (rI (-1 : Int32) X1 Y2)
    else
    bi (f_Pan_canRake p x1 X1 Y2) (fun r6 X4 Y5 =>
    (if r6 = 0 then
    (rI (-3 : Int32) X4 Y5)
    else
    bi (f_Pan_crustOf p x1 X4 Y5) (fun r9 X7 Y8 =>
    gd (ixb x1 6) (
    wr (ixb x1 6) (up X7 (p + 2) x1.toNatClampNeg ((X7 (p + 2) x1.toNatClampNeg) - r9)) (fun X10 =>
    bi (f_Mth_min (9999 : Int32) ((X10 p 4) + r9) X10 Y8) (fun r13 X11 Y12 =>
    lh (up X11 p 4 r13) (fun X14 =>
    (rI r9 X14 Y12))))))))))
set_option maxRecDepth 4000 in
theorem c_Pan_rakeUp {K : KK} (hK : kOK K) (p : Nat) (hp : IsP p) (x1 : Int32) (X : HI) (Y : HL) : CT K y_Pan_rakeUp prog_5_method_19_code 3 (some .int) rm_Pan_rakeUp [.ref p, .int x1] X Y (f_Pan_rakeUp p x1 X Y) := by
  refine ct_of hK (L := [some (.ref p), some (.int x1), none]) (by decide) ⟨rfl, ⟨rfl, trivial⟩⟩ (Nat.le_of_ble_eq_true rfl) ?_
  unfold f_Pan_rakeUp
  refine j_aload_n (i := 0) (x := p) (q := 1) d_Pan_rakeUp_0 rfl rfl rfl ?_
  refine j_get (v := .ref 3) (q := 4) d_Pan_rakeUp_1 fk_Pan_28 (fv_P0 hp) rfl ?_
  refine j_iload_n (i := 1) (x := x1) (q := 5) d_Pan_rakeUp_4 rfl rfl rfl ?_
  refine j_callVNi (a := 3) (S := []) (q := 8) [.int x1] d_Pan_rakeUp_5 mw_Gro_hasPan mv_Gro_hasPan ml_Pan_64 ob_3 rfl rfl (c_Gro_hasPan hK x1 X Y) ⟨⟨rfl, rfl⟩, ⟨Nat.le_of_ble_eq_true rfl, Nat.le_of_ble_eq_true rfl⟩, ⟨Nat.le_refl 0, Nat.le_refl 0⟩⟩ (Nat.le_of_ble_eq_true rfl) rfl (fun r3 X1 Y2 => ?_)
  refine j_if_ne (t := 13) (q := 11) d_Pan_rakeUp_8 (by decide) rfl ?_ ?_
  · refine j_aload_n (i := 0) (x := p) (q := 14) d_Pan_rakeUp_13 rfl rfl rfl ?_
    refine j_iload_n (i := 1) (x := x1) (q := 15) d_Pan_rakeUp_14 rfl rfl rfl ?_
    refine j_callVi (a := p) (S := []) (q := 18) [.int x1] d_Pan_rakeUp_15 mw_Pan_canRake mv_Pan_canRake ml_Pan_51 (ob_P hp) rfl rfl (c_Pan_canRake hK p hp x1 X1 Y2) ⟨⟨rfl, rfl⟩, ⟨Nat.le_of_ble_eq_true rfl, Nat.le_of_ble_eq_true rfl⟩, ⟨Nat.le_refl 0, Nat.le_refl 0⟩⟩ (Nat.le_of_ble_eq_true rfl) rfl (fun r6 X4 Y5 => ?_)
    refine j_if_ne (t := 24) (q := 21) d_Pan_rakeUp_18 (by decide) rfl ?_ ?_
    · refine j_aload_n (i := 0) (x := p) (q := 25) d_Pan_rakeUp_24 rfl rfl rfl ?_
      refine j_iload_n (i := 1) (x := x1) (q := 26) d_Pan_rakeUp_25 rfl rfl rfl ?_
      refine j_callVi (a := p) (S := []) (q := 29) [.int x1] d_Pan_rakeUp_26 mw_Pan_crustOf mv_Pan_crustOf ml_Pan_48 (ob_P hp) rfl rfl (c_Pan_crustOf hK p hp x1 X4 Y5) ⟨⟨rfl, rfl⟩, ⟨Nat.le_of_ble_eq_true rfl, Nat.le_of_ble_eq_true rfl⟩, ⟨Nat.le_refl 0, Nat.le_refl 0⟩⟩ (Nat.le_of_ble_eq_true rfl) rfl (fun r9 X7 Y8 => ?_)
      refine j_istore_n (i := 2) (L' := [some (.ref p), some (.int x1), some (.int r9)]) (q := 30) d_Pan_rakeUp_29 rfl (by decide) rfl rfl rfl ?_
      refine j_aload_n (i := 0) (x := p) (q := 31) d_Pan_rakeUp_30 rfl rfl rfl ?_
      refine j_get (v := .ref (p + 2)) (q := 34) d_Pan_rakeUp_31 fk_Pan_15 (fv_P2 hp) rfl ?_
      refine j_iload_n (i := 1) (x := x1) (q := 35) d_Pan_rakeUp_34 rfl rfl rfl ?_
      refine j_dup2 (q := 36) d_Pan_rakeUp_35 rfl rfl rfl ?_
      refine j_iald (q := 37) d_Pan_rakeUp_36 (ai_P2 hp) rfl ?_
      refine j_iload_n (i := 2) (x := r9) (q := 38) d_Pan_rakeUp_37 rfl rfl rfl ?_
      refine j_isub (q := 39) d_Pan_rakeUp_38 rfl ?_
      refine j_iast (q := 40) d_Pan_rakeUp_39 (ai_P2 hp) rfl (fun X10 => ?_)
      refine j_aload_n (i := 0) (x := p) (q := 41) d_Pan_rakeUp_40 rfl rfl rfl ?_
      refine j_sipush (v := 9999) (q := 44) d_Pan_rakeUp_41 (by decide +kernel) rfl ?_
      refine j_aload_n (i := 0) (x := p) (q := 45) d_Pan_rakeUp_44 rfl rfl rfl ?_
      refine j_get (v := .int (X10 p 4)) (q := 48) d_Pan_rakeUp_45 fk_Pan_22 (fv_P4 hp) rfl ?_
      refine j_iload_n (i := 2) (x := r9) (q := 49) d_Pan_rakeUp_48 rfl rfl rfl ?_
      refine j_iadd (q := 50) d_Pan_rakeUp_49 rfl ?_
      refine j_callSi (S := [.ref p]) (q := 53) [.int (9999 : Int32), .int ((X10 p 4) + r9)] d_Pan_rakeUp_50 mw_Mth_min ms_Mth_min ml_Pan_58 rfl rfl (c_Mth_min hK (9999 : Int32) ((X10 p 4) + r9) X10 Y8) ⟨⟨rfl, rfl⟩, ⟨Nat.le_of_ble_eq_true rfl, Nat.le_of_ble_eq_true rfl⟩, ⟨Nat.le_refl 0, Nat.le_refl 0⟩⟩ (Nat.le_of_ble_eq_true rfl) rfl (fun r13 X11 Y12 => ?_)
      refine j_putI (q := 56) d_Pan_rakeUp_53 fp_Pan_22 (fw_P4 hp) rfl (fun X14 => ?_)
      refine j_iload_n (i := 2) (x := r9) (q := 57) d_Pan_rakeUp_56 rfl rfl rfl ?_
      exact j_iret d_Pan_rakeUp_57
    · refine j_bipush (v := -3) (q := 23) d_Pan_rakeUp_21 (by decide +kernel) rfl ?_
      exact j_iret d_Pan_rakeUp_23
  · refine j_iconst (v := -1) (q := 12) d_Pan_rakeUp_11 (by decide) rfl ?_
    exact j_iret d_Pan_rakeUp_12
def l_Pan_rain_2 (p : Nat) (x1 : Int32) (kx : Int32 → HI → HL → Option Out) : Nat → Int32 → HI → HL → Option Out
  | 0, _, _, _ => none
  | n + 1, m2, X, Y =>
    (if (X 3 2) ≤ m2 then
    (kx m2 X Y)
    else
    gd (ixb m2 6) (
    bi (f_Pan_roomOf p m2 X Y) (fun r3 X1 Y2 =>
    bi (f_Mth_min x1 r3 X1 Y2) (fun r6 X4 Y5 =>
    wr (ixb m2 6) (up X4 (p + 1) m2.toNatClampNeg ((X (p + 1) m2.toNatClampNeg) + r6)) (fun X7 =>
    (l_Pan_rain_2 p x1 kx n (m2 + (1 : Int32)) X7 Y5))))))
def f_Pan_rain (p : Nat) (x1 : Int32) (X : HI) (Y : HL) : Option Out :=
    (l_Pan_rain_2 p x1 (fun w8 X9 Y10 =>
    (rV X9 Y10)) 256 (0 : Int32) X Y)
set_option maxRecDepth 4000 in
theorem jl_Pan_rain_2 {K : KK} (hK : kOK K) (p : Nat) (hp : IsP p) (x1 : Int32) (kx : Int32 → HI → HL → Option Out) (hkx : ∀ (m2 : Int32) (X : HI) (Y : HL), JO K "BrinePans$Pans" prog_5_method_21_code 3 none rm_Pan_rain 0 0 (MZ K) 37 [none, none, none] [] X Y (kx m2 X Y)) : ∀ (n : Nat) (m2 : Int32) (X : HI) (Y : HL), JO K "BrinePans$Pans" prog_5_method_21_code 3 none rm_Pan_rain 0 0 (MZ K) 2 [some (.ref p), some (.int x1), some (.int m2)] [] X Y (l_Pan_rain_2 p x1 kx n m2 X Y) := by
  intro n
  induction n with
  | zero =>
    intro m2 X Y
    rw [l_Pan_rain_2]
    exact j_none
  | succ n ih =>
    intro m2 X Y
    rw [l_Pan_rain_2]
    refine j_iload_n (i := 2) (x := m2) (q := 3) d_Pan_rain_2 rfl rfl rfl ?_
    refine j_aload_n (i := 0) (x := p) (q := 4) d_Pan_rain_3 rfl rfl rfl ?_
    refine j_get (v := .ref 3) (q := 7) d_Pan_rain_4 fk_Pan_28 (fv_P0 hp) rfl ?_
    refine j_get (v := .int (X 3 2)) (q := 10) d_Pan_rain_7 fk_Pan_45 fv_3_2 rfl ?_
    refine j_icmp_ge (t := 37) (q := 13) d_Pan_rain_10 (by decide) rfl ?_ ?_
    · refine j_sub (L' := [none, none, none]) trivial ?_
      exact hkx m2 X Y
    · refine j_aload_n (i := 0) (x := p) (q := 14) d_Pan_rain_13 rfl rfl rfl ?_
      refine j_get (v := .ref (p + 1)) (q := 17) d_Pan_rain_14 fk_Pan_9 (fv_P1 hp) rfl ?_
      refine j_iload_n (i := 2) (x := m2) (q := 18) d_Pan_rain_17 rfl rfl rfl ?_
      refine j_dup2 (q := 19) d_Pan_rain_18 rfl rfl rfl ?_
      refine j_iald (q := 20) d_Pan_rain_19 (ai_P1 hp) rfl ?_
      refine j_iload_n (i := 1) (x := x1) (q := 21) d_Pan_rain_20 rfl rfl rfl ?_
      refine j_aload_n (i := 0) (x := p) (q := 22) d_Pan_rain_21 rfl rfl rfl ?_
      refine j_iload_n (i := 2) (x := m2) (q := 23) d_Pan_rain_22 rfl rfl rfl ?_
      refine j_callVi (a := p) (S := [.int x1, .int (X (p + 1) m2.toNatClampNeg), .int m2, .ref (p + 1)]) (q := 26) [.int m2] d_Pan_rain_23 mw_Pan_roomOf mv_Pan_roomOf ml_Pan_71 (ob_P hp) rfl rfl (c_Pan_roomOf hK p hp m2 X Y) ⟨⟨rfl, rfl⟩, ⟨Nat.le_of_ble_eq_true rfl, Nat.le_of_ble_eq_true rfl⟩, ⟨Nat.le_refl 0, Nat.le_refl 0⟩⟩ (Nat.le_of_ble_eq_true rfl) rfl (fun r3 X1 Y2 => ?_)
      refine j_callSi (S := [.int (X (p + 1) m2.toNatClampNeg), .int m2, .ref (p + 1)]) (q := 29) [.int x1, .int r3] d_Pan_rain_26 mw_Mth_min ms_Mth_min ml_Pan_58 rfl rfl (c_Mth_min hK x1 r3 X1 Y2) ⟨⟨rfl, rfl⟩, ⟨Nat.le_of_ble_eq_true rfl, Nat.le_of_ble_eq_true rfl⟩, ⟨Nat.le_refl 0, Nat.le_refl 0⟩⟩ (Nat.le_of_ble_eq_true rfl) rfl (fun r6 X4 Y5 => ?_)
      refine j_iadd (q := 30) d_Pan_rain_29 rfl ?_
      refine j_iast (q := 31) d_Pan_rain_30 (ai_P1 hp) rfl (fun X7 => ?_)
      refine j_iinc (i := 2) (x := m2) (d := 1) (L' := [some (.ref p), some (.int x1), some (.int (m2 + (1 : Int32)))]) (q := 34) d_Pan_rain_31 rfl (by decide) (by decide) rfl rfl rfl ?_
      refine j_goto (q := 2) d_Pan_rain_34 (by decide) ?_
      refine j_sub (L' := [some (.ref p), some (.int x1), some (.int (m2 + (1 : Int32)))]) ⟨rfl, ⟨rfl, ⟨rfl, trivial⟩⟩⟩ ?_
      exact ih (m2 + (1 : Int32)) X7 Y5
set_option maxRecDepth 4000 in
theorem c_Pan_rain {K : KK} (hK : kOK K) (p : Nat) (hp : IsP p) (x1 : Int32) (X : HI) (Y : HL) : CT K y_Pan_rain prog_5_method_21_code 3 none rm_Pan_rain [.ref p, .int x1] X Y (f_Pan_rain p x1 X Y) := by
  refine ct_of hK (L := [some (.ref p), some (.int x1), none]) (by decide) ⟨rfl, ⟨rfl, trivial⟩⟩ (Nat.le_of_ble_eq_true rfl) ?_
  unfold f_Pan_rain
  refine j_iconst (v := 0) (q := 1) d_Pan_rain_0 (by decide) rfl ?_
  refine j_istore_n (i := 2) (L' := [some (.ref p), some (.int x1), some (.int (0 : Int32))]) (q := 2) d_Pan_rain_1 rfl (by decide) rfl rfl rfl ?_
  refine j_sub (L' := [some (.ref p), some (.int x1), some (.int (0 : Int32))]) ⟨rfl, ⟨rfl, ⟨rfl, trivial⟩⟩⟩ ?_
  refine jl_Pan_rain_2 hK p hp x1 _ (fun w8 X9 Y10 => ?_) 256 (0 : Int32) X Y
  exact j_vret d_Pan_rain_37
def f_Mth_max (x0 : Int32) (x1 : Int32) (X : HI) (Y : HL) : Option Out :=
    (if x0 < x1 then
    (rI x1 X Y)
    else
    (rI x0 X Y))
set_option maxRecDepth 4000 in
theorem c_Mth_max {K : KK} (hK : kOK K) (x0 : Int32) (x1 : Int32) (X : HI) (Y : HL) : CT K y_Mth_max prog_10_method_65_code 2 (some .int) rm_Mth_max [.int x0, .int x1] X Y (f_Mth_max x0 x1 X Y) := by
  refine ct_of hK (L := [some (.int x0), some (.int x1)]) (by decide) ⟨rfl, ⟨rfl, trivial⟩⟩ (Nat.le_of_ble_eq_true rfl) ?_
  unfold f_Mth_max
  refine j_iload_n (i := 0) (x := x0) (q := 1) d_Mth_max_0 rfl rfl rfl ?_
  refine j_iload_n (i := 1) (x := x1) (q := 2) d_Mth_max_1 rfl rfl rfl ?_
  refine j_icmp_lt (t := 9) (q := 5) d_Mth_max_2 (by decide) rfl ?_ ?_
  · refine j_iload_n (i := 1) (x := x1) (q := 10) d_Mth_max_9 rfl rfl rfl ?_
    exact j_iret d_Mth_max_10
  · refine j_iload_n (i := 0) (x := x0) (q := 6) d_Mth_max_5 rfl rfl rfl ?_
    refine j_goto (q := 10) d_Mth_max_6 (by decide) ?_
    exact j_iret d_Mth_max_10
def b_Pan_shine_33 (p : Nat) (kc : Int32 → HI → HL → Option Out) (kx : Int32 → HI → HL → Option Out) (x1 : Int32) (x2 : Int32) (s0 : Int32) (X : HI) (Y : HL) : Option Out :=
    gd (ixb x2 6) (
    bi (f_Mth_max (0 : Int32) ((X (p + 1) x2.toNatClampNeg) - s0) X Y) (fun r3 X1 Y2 =>
    wr (ixb x2 6) (up X1 (p + 1) x2.toNatClampNeg r3) (fun X4 =>
    (kc (x2 + (1 : Int32)) X4 Y2))))
def l_Pan_shine_2 (p : Nat) (x1 : Int32) (kx : Int32 → HI → HL → Option Out) : Nat → Int32 → HI → HL → Option Out
  | 0, _, _, _ => none
  | n + 1, m2, X, Y =>
    (if (X 3 2) ≤ m2 then
    (kx m2 X Y)
    else
    gd (ixb m2 6) (
    (if (X 4 m2.toNatClampNeg) = (2 : Int32) then
    (b_Pan_shine_33 p (fun a2 A B => l_Pan_shine_2 p x1 kx n a2 A B) kx x1 m2 (x1 + (1 : Int32)) X Y)
    else
    (b_Pan_shine_33 p (fun a2 A B => l_Pan_shine_2 p x1 kx n a2 A B) kx x1 m2 x1 X Y))))
def f_Pan_shine (p : Nat) (x1 : Int32) (X : HI) (Y : HL) : Option Out :=
    (l_Pan_shine_2 p x1 (fun w5 X6 Y7 =>
    (rV X6 Y7)) 256 (0 : Int32) X Y)
set_option maxRecDepth 4000 in
theorem jb_Pan_shine_33 {K : KK} (hK : kOK K) (p : Nat) (hp : IsP p) (kc : Int32 → HI → HL → Option Out) (kx : Int32 → HI → HL → Option Out) (x1 : Int32) (x2 : Int32) (s0 : Int32) (hkc : ∀ (m2 : Int32) (X : HI) (Y : HL), JO K "BrinePans$Pans" prog_5_method_22_code 4 none rm_Pan_shine 0 0 (MZ K) 2 [some (.ref p), some (.int x1), some (.int m2), none] [] X Y (kc m2 X Y)) (hkx : ∀ (m2 : Int32) (X : HI) (Y : HL), JO K "BrinePans$Pans" prog_5_method_22_code 4 none rm_Pan_shine 0 0 (MZ K) 58 [none, none, none, none] [] X Y (kx m2 X Y)) (X : HI) (Y : HL) : JO K "BrinePans$Pans" prog_5_method_22_code 4 none rm_Pan_shine 0 0 (MZ K) 33 [some (.ref p), some (.int x1), some (.int x2), none] [.int s0] X Y (b_Pan_shine_33 p kc kx x1 x2 s0 X Y) := by
  unfold b_Pan_shine_33
  refine j_istore_n (i := 3) (L' := [some (.ref p), some (.int x1), some (.int x2), some (.int s0)]) (q := 34) d_Pan_shine_33 rfl (by decide) rfl rfl rfl ?_
  refine j_aload_n (i := 0) (x := p) (q := 35) d_Pan_shine_34 rfl rfl rfl ?_
  refine j_get (v := .ref (p + 1)) (q := 38) d_Pan_shine_35 fk_Pan_9 (fv_P1 hp) rfl ?_
  refine j_iload_n (i := 2) (x := x2) (q := 39) d_Pan_shine_38 rfl rfl rfl ?_
  refine j_iconst (v := 0) (q := 40) d_Pan_shine_39 (by decide) rfl ?_
  refine j_aload_n (i := 0) (x := p) (q := 41) d_Pan_shine_40 rfl rfl rfl ?_
  refine j_get (v := .ref (p + 1)) (q := 44) d_Pan_shine_41 fk_Pan_9 (fv_P1 hp) rfl ?_
  refine j_iload_n (i := 2) (x := x2) (q := 45) d_Pan_shine_44 rfl rfl rfl ?_
  refine j_iald (q := 46) d_Pan_shine_45 (ai_P1 hp) rfl ?_
  refine j_iload_n (i := 3) (x := s0) (q := 47) d_Pan_shine_46 rfl rfl rfl ?_
  refine j_isub (q := 48) d_Pan_shine_47 rfl ?_
  refine j_callSi (S := [.int x2, .ref (p + 1)]) (q := 51) [.int (0 : Int32), .int ((X (p + 1) x2.toNatClampNeg) - s0)] d_Pan_shine_48 mw_Mth_max ms_Mth_max ml_Pan_107 rfl rfl (c_Mth_max hK (0 : Int32) ((X (p + 1) x2.toNatClampNeg) - s0) X Y) ⟨⟨rfl, rfl⟩, ⟨Nat.le_of_ble_eq_true rfl, Nat.le_of_ble_eq_true rfl⟩, ⟨Nat.le_refl 0, Nat.le_refl 0⟩⟩ (Nat.le_of_ble_eq_true rfl) rfl (fun r3 X1 Y2 => ?_)
  refine j_iast (q := 52) d_Pan_shine_51 (ai_P1 hp) rfl (fun X4 => ?_)
  refine j_iinc (i := 2) (x := x2) (d := 1) (L' := [some (.ref p), some (.int x1), some (.int (x2 + (1 : Int32))), some (.int s0)]) (q := 55) d_Pan_shine_52 rfl (by decide) (by decide) rfl rfl rfl ?_
  refine j_goto (q := 2) d_Pan_shine_55 (by decide) ?_
  refine j_sub (L' := [some (.ref p), some (.int x1), some (.int (x2 + (1 : Int32))), none]) ⟨rfl, ⟨rfl, ⟨rfl, trivial⟩⟩⟩ ?_
  exact hkc (x2 + (1 : Int32)) X4 Y2
set_option maxRecDepth 4000 in
theorem jl_Pan_shine_2 {K : KK} (hK : kOK K) (p : Nat) (hp : IsP p) (x1 : Int32) (kx : Int32 → HI → HL → Option Out) (hkx : ∀ (m2 : Int32) (X : HI) (Y : HL), JO K "BrinePans$Pans" prog_5_method_22_code 4 none rm_Pan_shine 0 0 (MZ K) 58 [none, none, none, none] [] X Y (kx m2 X Y)) : ∀ (n : Nat) (m2 : Int32) (X : HI) (Y : HL), JO K "BrinePans$Pans" prog_5_method_22_code 4 none rm_Pan_shine 0 0 (MZ K) 2 [some (.ref p), some (.int x1), some (.int m2), none] [] X Y (l_Pan_shine_2 p x1 kx n m2 X Y) := by
  intro n
  induction n with
  | zero =>
    intro m2 X Y
    rw [l_Pan_shine_2]
    exact j_none
  | succ n ih =>
    intro m2 X Y
    rw [l_Pan_shine_2]
    refine j_iload_n (i := 2) (x := m2) (q := 3) d_Pan_shine_2 rfl rfl rfl ?_
    refine j_aload_n (i := 0) (x := p) (q := 4) d_Pan_shine_3 rfl rfl rfl ?_
    refine j_get (v := .ref 3) (q := 7) d_Pan_shine_4 fk_Pan_28 (fv_P0 hp) rfl ?_
    refine j_get (v := .int (X 3 2)) (q := 10) d_Pan_shine_7 fk_Pan_45 fv_3_2 rfl ?_
    refine j_icmp_ge (t := 58) (q := 13) d_Pan_shine_10 (by decide) rfl ?_ ?_
    · refine j_sub (L' := [none, none, none, none]) trivial ?_
      exact hkx m2 X Y
    · refine j_aload_n (i := 0) (x := p) (q := 14) d_Pan_shine_13 rfl rfl rfl ?_
      refine j_get (v := .ref 3) (q := 17) d_Pan_shine_14 fk_Pan_28 (fv_P0 hp) rfl ?_
      refine j_get (v := .ref 4) (q := 20) d_Pan_shine_17 fk_Pan_95 fv_3_0 rfl ?_
      refine j_iload_n (i := 2) (x := m2) (q := 21) d_Pan_shine_20 rfl rfl rfl ?_
      refine j_iald (q := 22) d_Pan_shine_21 ai_4 rfl ?_
      refine j_iconst (v := 2) (q := 23) d_Pan_shine_22 (by decide) rfl ?_
      refine j_icmp_ne (t := 32) (q := 26) d_Pan_shine_23 (by decide) rfl ?_ ?_
      · refine j_iload_n (i := 1) (x := x1) (q := 33) d_Pan_shine_32 rfl rfl rfl ?_
        refine j_sub (L' := [some (.ref p), some (.int x1), some (.int m2), none]) ⟨rfl, ⟨rfl, ⟨rfl, trivial⟩⟩⟩ ?_
        exact jb_Pan_shine_33 hK p hp (fun a2 A B => l_Pan_shine_2 p x1 kx n a2 A B) kx x1 m2 x1 ih hkx X Y
      · refine j_iload_n (i := 1) (x := x1) (q := 27) d_Pan_shine_26 rfl rfl rfl ?_
        refine j_iconst (v := 1) (q := 28) d_Pan_shine_27 (by decide) rfl ?_
        refine j_iadd (q := 29) d_Pan_shine_28 rfl ?_
        refine j_goto (q := 33) d_Pan_shine_29 (by decide) ?_
        refine j_sub (L' := [some (.ref p), some (.int x1), some (.int m2), none]) ⟨rfl, ⟨rfl, ⟨rfl, trivial⟩⟩⟩ ?_
        exact jb_Pan_shine_33 hK p hp (fun a2 A B => l_Pan_shine_2 p x1 kx n a2 A B) kx x1 m2 (x1 + (1 : Int32)) ih hkx X Y
set_option maxRecDepth 4000 in
theorem c_Pan_shine {K : KK} (hK : kOK K) (p : Nat) (hp : IsP p) (x1 : Int32) (X : HI) (Y : HL) : CT K y_Pan_shine prog_5_method_22_code 4 none rm_Pan_shine [.ref p, .int x1] X Y (f_Pan_shine p x1 X Y) := by
  refine ct_of hK (L := [some (.ref p), some (.int x1), none, none]) (by decide) ⟨rfl, ⟨rfl, trivial⟩⟩ (Nat.le_of_ble_eq_true rfl) ?_
  unfold f_Pan_shine
  refine j_iconst (v := 0) (q := 1) d_Pan_shine_0 (by decide) rfl ?_
  refine j_istore_n (i := 2) (L' := [some (.ref p), some (.int x1), some (.int (0 : Int32)), none]) (q := 2) d_Pan_shine_1 rfl (by decide) rfl rfl rfl ?_
  refine j_sub (L' := [some (.ref p), some (.int x1), some (.int (0 : Int32)), none]) ⟨rfl, ⟨rfl, ⟨rfl, trivial⟩⟩⟩ ?_
  refine jl_Pan_shine_2 hK p hp x1 _ (fun w5 X6 Y7 => ?_) 256 (0 : Int32) X Y
  exact j_vret d_Pan_shine_58
def b_Pan_passDay_28 (p : Nat) (kc : Int32 → HI → HL → Option Out) (kx : Int32 → HI → HL → Option Out) (x1 : Int32) (x2 : Int32) (X : HI) (Y : HL) : Option Out :=
    (kc (x2 + (1 : Int32)) X Y)
def l_Pan_passDay_2 (p : Nat) (x1 : Int32) (kx : Int32 → HI → HL → Option Out) : Nat → Int32 → HI → HL → Option Out
  | 0, _, _, _ => none
  | n + 1, m2, X, Y =>
    bi (f_Gro_gateCount X Y) (fun r3 X1 Y2 =>
    (if r3 ≤ m2 then
    (kx m2 X1 Y2)
    else
    bi (f_Pan_isOpen p m2 X1 Y2) (fun r6 X4 Y5 =>
    (if r6 = 0 then
    (b_Pan_passDay_28 p (fun a2 A B => l_Pan_passDay_2 p x1 kx n a2 A B) kx x1 m2 X4 Y5)
    else
    bi (f_Pan_letOn p m2 (1 : Int32) X4 Y5) (fun r9 X7 Y8 =>
    (b_Pan_passDay_28 p (fun a2 A B => l_Pan_passDay_2 p x1 kx n a2 A B) kx x1 m2 X7 Y8))))))
def b_Pan_passDay_67 (p : Nat) (kc : Int32 → HI → HL → Option Out) (kx : Int32 → HI → HL → Option Out) (x1 : Int32) (x2 : Int32) (X : HI) (Y : HL) : Option Out :=
    (kc (x2 + (1 : Int32)) X Y)
def l_Pan_passDay_36 (p : Nat) (x1 : Int32) (kx : Int32 → HI → HL → Option Out) : Nat → Int32 → HI → HL → Option Out
  | 0, _, _, _ => none
  | n + 1, m2, X, Y =>
    (if (X 3 2) ≤ m2 then
    (kx m2 X Y)
    else
    gd (ixb m2 6) (
    (if (X 4 m2.toNatClampNeg) = (3 : Int32) then
    bi (f_Pan_drain p m2 (1 : Int32) X Y) (fun r15 X13 Y14 =>
    (b_Pan_passDay_67 p (fun a2 A B => l_Pan_passDay_36 p x1 kx n a2 A B) kx x1 m2 X13 Y14))
    else
    (b_Pan_passDay_67 p (fun a2 A B => l_Pan_passDay_36 p x1 kx n a2 A B) kx x1 m2 X Y))))
def b_Pan_passDay_111 (p : Nat) (X : HI) (Y : HL) : Option Out :=
    lh (up X p 5 ((X p 5) + (1 : Int32))) (fun X22 =>
    (rV X22 Y))
def f_Pan_passDay (p : Nat) (x1 : Int32) (X : HI) (Y : HL) : Option Out :=
    (l_Pan_passDay_2 p x1 (fun w10 X11 Y12 =>
    (l_Pan_passDay_36 p x1 (fun w16 X17 Y18 =>
    bi (f_Gro_skyOf (X17 p 5) X17 Y18) (fun r21 X19 Y20 =>
    (if 0 ≤ r21 then
    (if r21 ≤ 0 then
    (b_Pan_passDay_111 p X19 Y20)
    else
    (if x1 = 0 then
    bv (f_Pan_shine p r21 X19 Y20) (fun X23 Y24 =>
    (b_Pan_passDay_111 p X23 Y24))
    else
    (b_Pan_passDay_111 p X19 Y20)))
    else
    bv (f_Pan_rain p (-r21) X19 Y20) (fun X25 Y26 =>
    (b_Pan_passDay_111 p X25 Y26))))) 256 (0 : Int32) X11 Y12)) 256 (0 : Int32) X Y)
set_option maxRecDepth 4000 in
theorem jb_Pan_passDay_28 {K : KK} (hK : kOK K) (p : Nat) (hp : IsP p) (kc : Int32 → HI → HL → Option Out) (kx : Int32 → HI → HL → Option Out) (x1 : Int32) (x2 : Int32) (hkc : ∀ (m2 : Int32) (X : HI) (Y : HL), JO K "BrinePans$Pans" prog_5_method_20_code 3 none rm_Pan_passDay 0 0 (MZ K) 2 [some (.ref p), some (.int x1), some (.int m2)] [] X Y (kc m2 X Y)) (hkx : ∀ (m2 : Int32) (X : HI) (Y : HL), JO K "BrinePans$Pans" prog_5_method_20_code 3 none rm_Pan_passDay 0 0 (MZ K) 34 [some (.ref p), some (.int x1), none] [] X Y (kx m2 X Y)) (X : HI) (Y : HL) : JO K "BrinePans$Pans" prog_5_method_20_code 3 none rm_Pan_passDay 0 0 (MZ K) 28 [some (.ref p), some (.int x1), some (.int x2)] [] X Y (b_Pan_passDay_28 p kc kx x1 x2 X Y) := by
  unfold b_Pan_passDay_28
  refine j_iinc (i := 2) (x := x2) (d := 1) (L' := [some (.ref p), some (.int x1), some (.int (x2 + (1 : Int32)))]) (q := 31) d_Pan_passDay_28 rfl (by decide) (by decide) rfl rfl rfl ?_
  refine j_goto (q := 2) d_Pan_passDay_31 (by decide) ?_
  refine j_sub (L' := [some (.ref p), some (.int x1), some (.int (x2 + (1 : Int32)))]) ⟨rfl, ⟨rfl, ⟨rfl, trivial⟩⟩⟩ ?_
  exact hkc (x2 + (1 : Int32)) X Y
set_option maxRecDepth 4000 in
theorem jl_Pan_passDay_2 {K : KK} (hK : kOK K) (p : Nat) (hp : IsP p) (x1 : Int32) (kx : Int32 → HI → HL → Option Out) (hkx : ∀ (m2 : Int32) (X : HI) (Y : HL), JO K "BrinePans$Pans" prog_5_method_20_code 3 none rm_Pan_passDay 0 0 (MZ K) 34 [some (.ref p), some (.int x1), none] [] X Y (kx m2 X Y)) : ∀ (n : Nat) (m2 : Int32) (X : HI) (Y : HL), JO K "BrinePans$Pans" prog_5_method_20_code 3 none rm_Pan_passDay 0 0 (MZ K) 2 [some (.ref p), some (.int x1), some (.int m2)] [] X Y (l_Pan_passDay_2 p x1 kx n m2 X Y) := by
  intro n
  induction n with
  | zero =>
    intro m2 X Y
    rw [l_Pan_passDay_2]
    exact j_none
  | succ n ih =>
    intro m2 X Y
    rw [l_Pan_passDay_2]
    refine j_iload_n (i := 2) (x := m2) (q := 3) d_Pan_passDay_2 rfl rfl rfl ?_
    refine j_aload_n (i := 0) (x := p) (q := 4) d_Pan_passDay_3 rfl rfl rfl ?_
    refine j_get (v := .ref 3) (q := 7) d_Pan_passDay_4 fk_Pan_28 (fv_P0 hp) rfl ?_
    refine j_callVNi (a := 3) (S := [.int m2]) (q := 10) [] d_Pan_passDay_7 mw_Gro_gateCount mv_Gro_gateCount ml_Pan_88 ob_3 rfl rfl (c_Gro_gateCount hK X Y) ⟨⟨rfl, rfl⟩, ⟨Nat.le_of_ble_eq_true rfl, Nat.le_of_ble_eq_true rfl⟩, ⟨Nat.le_refl 0, Nat.le_refl 0⟩⟩ (Nat.le_of_ble_eq_true rfl) rfl (fun r3 X1 Y2 => ?_)
    refine j_icmp_ge (t := 34) (q := 13) d_Pan_passDay_10 (by decide) rfl ?_ ?_
    · refine j_sub (L' := [some (.ref p), some (.int x1), none]) ⟨rfl, ⟨rfl, trivial⟩⟩ ?_
      exact hkx m2 X1 Y2
    · refine j_aload_n (i := 0) (x := p) (q := 14) d_Pan_passDay_13 rfl rfl rfl ?_
      refine j_iload_n (i := 2) (x := m2) (q := 15) d_Pan_passDay_14 rfl rfl rfl ?_
      refine j_callVi (a := p) (S := []) (q := 18) [.int m2] d_Pan_passDay_15 mw_Pan_isOpen mv_Pan_isOpen ml_Pan_55 (ob_P hp) rfl rfl (c_Pan_isOpen hK p hp m2 X1 Y2) ⟨⟨rfl, rfl⟩, ⟨Nat.le_of_ble_eq_true rfl, Nat.le_of_ble_eq_true rfl⟩, ⟨Nat.le_refl 0, Nat.le_refl 0⟩⟩ (Nat.le_of_ble_eq_true rfl) rfl (fun r6 X4 Y5 => ?_)
      refine j_if_eq (t := 28) (q := 21) d_Pan_passDay_18 (by decide) rfl ?_ ?_
      · refine j_sub (L' := [some (.ref p), some (.int x1), some (.int m2)]) ⟨rfl, ⟨rfl, ⟨rfl, trivial⟩⟩⟩ ?_
        exact jb_Pan_passDay_28 hK p hp (fun a2 A B => l_Pan_passDay_2 p x1 kx n a2 A B) kx x1 m2 ih hkx X4 Y5
      · refine j_aload_n (i := 0) (x := p) (q := 22) d_Pan_passDay_21 rfl rfl rfl ?_
        refine j_iload_n (i := 2) (x := m2) (q := 23) d_Pan_passDay_22 rfl rfl rfl ?_
        refine j_iconst (v := 1) (q := 24) d_Pan_passDay_23 (by decide) rfl ?_
        refine j_callVi (a := p) (S := []) (q := 27) [.int m2, .int (1 : Int32)] d_Pan_passDay_24 mw_Pan_letOn mv_Pan_letOn ml_Pan_92 (ob_P hp) rfl rfl (c_Pan_letOn hK p hp m2 (1 : Int32) X4 Y5) ⟨⟨rfl, rfl⟩, ⟨Nat.le_of_ble_eq_true rfl, Nat.le_of_ble_eq_true rfl⟩, ⟨Nat.le_refl 0, Nat.le_refl 0⟩⟩ (Nat.le_of_ble_eq_true rfl) rfl (fun r9 X7 Y8 => ?_)
        refine j_pop (q := 28) d_Pan_passDay_27 rfl rfl ?_
        refine j_sub (L' := [some (.ref p), some (.int x1), some (.int m2)]) ⟨rfl, ⟨rfl, ⟨rfl, trivial⟩⟩⟩ ?_
        exact jb_Pan_passDay_28 hK p hp (fun a2 A B => l_Pan_passDay_2 p x1 kx n a2 A B) kx x1 m2 ih hkx X7 Y8
set_option maxRecDepth 4000 in
theorem jb_Pan_passDay_67 {K : KK} (hK : kOK K) (p : Nat) (hp : IsP p) (kc : Int32 → HI → HL → Option Out) (kx : Int32 → HI → HL → Option Out) (x1 : Int32) (x2 : Int32) (hkc : ∀ (m2 : Int32) (X : HI) (Y : HL), JO K "BrinePans$Pans" prog_5_method_20_code 3 none rm_Pan_passDay 0 0 (MZ K) 36 [some (.ref p), some (.int x1), some (.int m2)] [] X Y (kc m2 X Y)) (hkx : ∀ (m2 : Int32) (X : HI) (Y : HL), JO K "BrinePans$Pans" prog_5_method_20_code 3 none rm_Pan_passDay 0 0 (MZ K) 73 [some (.ref p), some (.int x1), none] [] X Y (kx m2 X Y)) (X : HI) (Y : HL) : JO K "BrinePans$Pans" prog_5_method_20_code 3 none rm_Pan_passDay 0 0 (MZ K) 67 [some (.ref p), some (.int x1), some (.int x2)] [] X Y (b_Pan_passDay_67 p kc kx x1 x2 X Y) := by
  unfold b_Pan_passDay_67
  refine j_iinc (i := 2) (x := x2) (d := 1) (L' := [some (.ref p), some (.int x1), some (.int (x2 + (1 : Int32)))]) (q := 70) d_Pan_passDay_67 rfl (by decide) (by decide) rfl rfl rfl ?_
  refine j_goto (q := 36) d_Pan_passDay_70 (by decide) ?_
  refine j_sub (L' := [some (.ref p), some (.int x1), some (.int (x2 + (1 : Int32)))]) ⟨rfl, ⟨rfl, ⟨rfl, trivial⟩⟩⟩ ?_
  exact hkc (x2 + (1 : Int32)) X Y
set_option maxRecDepth 4000 in
theorem jl_Pan_passDay_36 {K : KK} (hK : kOK K) (p : Nat) (hp : IsP p) (x1 : Int32) (kx : Int32 → HI → HL → Option Out) (hkx : ∀ (m2 : Int32) (X : HI) (Y : HL), JO K "BrinePans$Pans" prog_5_method_20_code 3 none rm_Pan_passDay 0 0 (MZ K) 73 [some (.ref p), some (.int x1), none] [] X Y (kx m2 X Y)) : ∀ (n : Nat) (m2 : Int32) (X : HI) (Y : HL), JO K "BrinePans$Pans" prog_5_method_20_code 3 none rm_Pan_passDay 0 0 (MZ K) 36 [some (.ref p), some (.int x1), some (.int m2)] [] X Y (l_Pan_passDay_36 p x1 kx n m2 X Y) := by
  intro n
  induction n with
  | zero =>
    intro m2 X Y
    rw [l_Pan_passDay_36]
    exact j_none
  | succ n ih =>
    intro m2 X Y
    rw [l_Pan_passDay_36]
    refine j_iload_n (i := 2) (x := m2) (q := 37) d_Pan_passDay_36 rfl rfl rfl ?_
    refine j_aload_n (i := 0) (x := p) (q := 38) d_Pan_passDay_37 rfl rfl rfl ?_
    refine j_get (v := .ref 3) (q := 41) d_Pan_passDay_38 fk_Pan_28 (fv_P0 hp) rfl ?_
    refine j_get (v := .int (X 3 2)) (q := 44) d_Pan_passDay_41 fk_Pan_45 fv_3_2 rfl ?_
    refine j_icmp_ge (t := 73) (q := 47) d_Pan_passDay_44 (by decide) rfl ?_ ?_
    · refine j_sub (L' := [some (.ref p), some (.int x1), none]) ⟨rfl, ⟨rfl, trivial⟩⟩ ?_
      exact hkx m2 X Y
    · refine j_aload_n (i := 0) (x := p) (q := 48) d_Pan_passDay_47 rfl rfl rfl ?_
      refine j_get (v := .ref 3) (q := 51) d_Pan_passDay_48 fk_Pan_28 (fv_P0 hp) rfl ?_
      refine j_get (v := .ref 4) (q := 54) d_Pan_passDay_51 fk_Pan_95 fv_3_0 rfl ?_
      refine j_iload_n (i := 2) (x := m2) (q := 55) d_Pan_passDay_54 rfl rfl rfl ?_
      refine j_iald (q := 56) d_Pan_passDay_55 ai_4 rfl ?_
      refine j_iconst (v := 3) (q := 57) d_Pan_passDay_56 (by decide) rfl ?_
      refine j_icmp_ne (t := 67) (q := 60) d_Pan_passDay_57 (by decide) rfl ?_ ?_
      · refine j_sub (L' := [some (.ref p), some (.int x1), some (.int m2)]) ⟨rfl, ⟨rfl, ⟨rfl, trivial⟩⟩⟩ ?_
        exact jb_Pan_passDay_67 hK p hp (fun a2 A B => l_Pan_passDay_36 p x1 kx n a2 A B) kx x1 m2 ih hkx X Y
      · refine j_aload_n (i := 0) (x := p) (q := 61) d_Pan_passDay_60 rfl rfl rfl ?_
        refine j_iload_n (i := 2) (x := m2) (q := 62) d_Pan_passDay_61 rfl rfl rfl ?_
        refine j_iconst (v := 1) (q := 63) d_Pan_passDay_62 (by decide) rfl ?_
        refine j_callVi (a := p) (S := []) (q := 66) [.int m2, .int (1 : Int32)] d_Pan_passDay_63 mw_Pan_drain mv_Pan_drain ml_Pan_81 (ob_P hp) rfl rfl (c_Pan_drain hK p hp m2 (1 : Int32) X Y) ⟨⟨rfl, rfl⟩, ⟨Nat.le_of_ble_eq_true rfl, Nat.le_of_ble_eq_true rfl⟩, ⟨Nat.le_refl 0, Nat.le_refl 0⟩⟩ (Nat.le_of_ble_eq_true rfl) rfl (fun r15 X13 Y14 => ?_)
        refine j_pop (q := 67) d_Pan_passDay_66 rfl rfl ?_
        refine j_sub (L' := [some (.ref p), some (.int x1), some (.int m2)]) ⟨rfl, ⟨rfl, ⟨rfl, trivial⟩⟩⟩ ?_
        exact jb_Pan_passDay_67 hK p hp (fun a2 A B => l_Pan_passDay_36 p x1 kx n a2 A B) kx x1 m2 ih hkx X13 Y14
set_option maxRecDepth 4000 in
theorem jb_Pan_passDay_111 {K : KK} (hK : kOK K) (p : Nat) (hp : IsP p) (X : HI) (Y : HL) : JO K "BrinePans$Pans" prog_5_method_20_code 3 none rm_Pan_passDay 0 0 (MZ K) 111 [some (.ref p), none, none] [] X Y (b_Pan_passDay_111 p X Y) := by
  unfold b_Pan_passDay_111
  refine j_aload_n (i := 0) (x := p) (q := 112) d_Pan_passDay_111 rfl rfl rfl ?_
  refine j_dup (q := 113) d_Pan_passDay_112 rfl rfl ?_
  refine j_get (v := .int (X p 5)) (q := 116) d_Pan_passDay_113 fk_Pan_25 (fv_P5 hp) rfl ?_
  refine j_iconst (v := 1) (q := 117) d_Pan_passDay_116 (by decide) rfl ?_
  refine j_iadd (q := 118) d_Pan_passDay_117 rfl ?_
  refine j_putI (q := 121) d_Pan_passDay_118 fp_Pan_25 (fw_P5 hp) rfl (fun X22 => ?_)
  exact j_vret d_Pan_passDay_121
set_option maxRecDepth 4000 in
theorem c_Pan_passDay {K : KK} (hK : kOK K) (p : Nat) (hp : IsP p) (x1 : Int32) (X : HI) (Y : HL) : CT K y_Pan_passDay prog_5_method_20_code 3 none rm_Pan_passDay [.ref p, .int x1] X Y (f_Pan_passDay p x1 X Y) := by
  refine ct_of hK (L := [some (.ref p), some (.int x1), none]) (by decide) ⟨rfl, ⟨rfl, trivial⟩⟩ (Nat.le_of_ble_eq_true rfl) ?_
  unfold f_Pan_passDay
  refine j_iconst (v := 0) (q := 1) d_Pan_passDay_0 (by decide) rfl ?_
  refine j_istore_n (i := 2) (L' := [some (.ref p), some (.int x1), some (.int (0 : Int32))]) (q := 2) d_Pan_passDay_1 rfl (by decide) rfl rfl rfl ?_
  refine j_sub (L' := [some (.ref p), some (.int x1), some (.int (0 : Int32))]) ⟨rfl, ⟨rfl, ⟨rfl, trivial⟩⟩⟩ ?_
  refine jl_Pan_passDay_2 hK p hp x1 _ (fun w10 X11 Y12 => ?_) 256 (0 : Int32) X Y
  refine j_iconst (v := 0) (q := 35) d_Pan_passDay_34 (by decide) rfl ?_
  refine j_istore_n (i := 2) (L' := [some (.ref p), some (.int x1), some (.int (0 : Int32))]) (q := 36) d_Pan_passDay_35 rfl (by decide) rfl rfl rfl ?_
  refine j_sub (L' := [some (.ref p), some (.int x1), some (.int (0 : Int32))]) ⟨rfl, ⟨rfl, ⟨rfl, trivial⟩⟩⟩ ?_
  refine jl_Pan_passDay_36 hK p hp x1 _ (fun w16 X17 Y18 => ?_) 256 (0 : Int32) X11 Y12
  refine j_aload_n (i := 0) (x := p) (q := 74) d_Pan_passDay_73 rfl rfl rfl ?_
  refine j_get (v := .ref 3) (q := 77) d_Pan_passDay_74 fk_Pan_28 (fv_P0 hp) rfl ?_
  refine j_aload_n (i := 0) (x := p) (q := 78) d_Pan_passDay_77 rfl rfl rfl ?_
  refine j_get (v := .int (X17 p 5)) (q := 81) d_Pan_passDay_78 fk_Pan_25 (fv_P5 hp) rfl ?_
  refine j_callVNi (a := 3) (S := []) (q := 84) [.int (X17 p 5)] d_Pan_passDay_81 mw_Gro_skyOf mv_Gro_skyOf ml_Pan_98 ob_3 rfl rfl (c_Gro_skyOf hK (X17 p 5) X17 Y18) ⟨⟨rfl, rfl⟩, ⟨Nat.le_of_ble_eq_true rfl, Nat.le_of_ble_eq_true rfl⟩, ⟨Nat.le_refl 0, Nat.le_refl 0⟩⟩ (Nat.le_of_ble_eq_true rfl) rfl (fun r21 X19 Y20 => ?_)
  refine j_istore_n (i := 2) (L' := [some (.ref p), some (.int x1), some (.int r21)]) (q := 85) d_Pan_passDay_84 rfl (by decide) rfl rfl rfl ?_
  refine j_iload_n (i := 2) (x := r21) (q := 86) d_Pan_passDay_85 rfl rfl rfl ?_
  refine j_if_ge (t := 98) (q := 89) d_Pan_passDay_86 (by decide) rfl ?_ ?_
  · refine j_iload_n (i := 2) (x := r21) (q := 99) d_Pan_passDay_98 rfl rfl rfl ?_
    refine j_if_le (t := 111) (q := 102) d_Pan_passDay_99 (by decide) rfl ?_ ?_
    · refine j_sub (L' := [some (.ref p), none, none]) ⟨rfl, trivial⟩ ?_
      exact jb_Pan_passDay_111 hK p hp X19 Y20
    · refine j_iload_n (i := 1) (x := x1) (q := 103) d_Pan_passDay_102 rfl rfl rfl ?_
      refine j_if_ne (t := 111) (q := 106) d_Pan_passDay_103 (by decide) rfl ?_ ?_
      · refine j_sub (L' := [some (.ref p), none, none]) ⟨rfl, trivial⟩ ?_
        exact jb_Pan_passDay_111 hK p hp X19 Y20
      · refine j_aload_n (i := 0) (x := p) (q := 107) d_Pan_passDay_106 rfl rfl rfl ?_
        refine j_iload_n (i := 2) (x := r21) (q := 108) d_Pan_passDay_107 rfl rfl rfl ?_
        refine j_callVv (a := p) (S := []) (q := 111) [.int r21] d_Pan_passDay_108 mw_Pan_shine mv_Pan_shine ml_Pan_104 (ob_P hp) rfl rfl (c_Pan_shine hK p hp r21 X19 Y20) ⟨⟨rfl, rfl⟩, ⟨Nat.le_of_ble_eq_true rfl, Nat.le_of_ble_eq_true rfl⟩, ⟨Nat.le_refl 0, Nat.le_refl 0⟩⟩ (Nat.le_of_ble_eq_true rfl) rfl (fun X23 Y24 => ?_)
        refine j_sub (L' := [some (.ref p), none, none]) ⟨rfl, trivial⟩ ?_
        exact jb_Pan_passDay_111 hK p hp X23 Y24
  · refine j_aload_n (i := 0) (x := p) (q := 90) d_Pan_passDay_89 rfl rfl rfl ?_
    refine j_iload_n (i := 2) (x := r21) (q := 91) d_Pan_passDay_90 rfl rfl rfl ?_
    refine j_ineg (q := 92) d_Pan_passDay_91 rfl ?_
    refine j_callVv (a := p) (S := []) (q := 95) [.int (-r21)] d_Pan_passDay_92 mw_Pan_rain mv_Pan_rain ml_Pan_101 (ob_P hp) rfl rfl (c_Pan_rain hK p hp (-r21) X19 Y20) ⟨⟨rfl, rfl⟩, ⟨Nat.le_of_ble_eq_true rfl, Nat.le_of_ble_eq_true rfl⟩, ⟨Nat.le_refl 0, Nat.le_refl 0⟩⟩ (Nat.le_of_ble_eq_true rfl) rfl (fun X25 Y26 => ?_)
    refine j_goto (q := 111) d_Pan_passDay_95 (by decide) ?_
    refine j_sub (L' := [some (.ref p), none, none]) ⟨rfl, trivial⟩ ?_
    exact jb_Pan_passDay_111 hK p hp X25 Y26
def l_Pan_passDays_2 (p : Nat) (x1 : Int32) (kx : Int32 → HI → HL → Option Out) : Nat → Int32 → HI → HL → Option Out
  | 0, _, _, _ => none
  | n + 1, m2, X, Y =>
    (if x1 ≤ m2 then
    (kx m2 X Y)
    else
    bv (f_Pan_passDay p (0 : Int32) X Y) (fun X1 Y2 =>
    (l_Pan_passDays_2 p x1 kx n (m2 + (1 : Int32)) X1 Y2)))
def f_Pan_passDays (p : Nat) (x1 : Int32) (X : HI) (Y : HL) : Option Out :=
    (l_Pan_passDays_2 p x1 (fun w3 X4 Y5 =>
    (rV X4 Y5)) 256 (0 : Int32) X Y)
set_option maxRecDepth 4000 in
theorem jl_Pan_passDays_2 {K : KK} (hK : kOK K) (p : Nat) (hp : IsP p) (x1 : Int32) (kx : Int32 → HI → HL → Option Out) (hkx : ∀ (m2 : Int32) (X : HI) (Y : HL), JO K "BrinePans$Pans" prog_5_method_23_code 3 none rm_Pan_passDays 0 0 (MZ K) 18 [none, none, none] [] X Y (kx m2 X Y)) : ∀ (n : Nat) (m2 : Int32) (X : HI) (Y : HL), JO K "BrinePans$Pans" prog_5_method_23_code 3 none rm_Pan_passDays 0 0 (MZ K) 2 [some (.ref p), some (.int x1), some (.int m2)] [] X Y (l_Pan_passDays_2 p x1 kx n m2 X Y) := by
  intro n
  induction n with
  | zero =>
    intro m2 X Y
    rw [l_Pan_passDays_2]
    exact j_none
  | succ n ih =>
    intro m2 X Y
    rw [l_Pan_passDays_2]
    refine j_iload_n (i := 2) (x := m2) (q := 3) d_Pan_passDays_2 rfl rfl rfl ?_
    refine j_iload_n (i := 1) (x := x1) (q := 4) d_Pan_passDays_3 rfl rfl rfl ?_
    refine j_icmp_ge (t := 18) (q := 7) d_Pan_passDays_4 (by decide) rfl ?_ ?_
    · refine j_sub (L' := [none, none, none]) trivial ?_
      exact hkx m2 X Y
    · refine j_aload_n (i := 0) (x := p) (q := 8) d_Pan_passDays_7 rfl rfl rfl ?_
      refine j_iconst (v := 0) (q := 9) d_Pan_passDays_8 (by decide) rfl ?_
      refine j_callVv (a := p) (S := []) (q := 12) [.int (0 : Int32)] d_Pan_passDays_9 mw_Pan_passDay mv_Pan_passDay ml_Pan_110 (ob_P hp) rfl rfl (c_Pan_passDay hK p hp (0 : Int32) X Y) ⟨⟨rfl, rfl⟩, ⟨Nat.le_of_ble_eq_true rfl, Nat.le_of_ble_eq_true rfl⟩, ⟨Nat.le_refl 0, Nat.le_refl 0⟩⟩ (Nat.le_of_ble_eq_true rfl) rfl (fun X1 Y2 => ?_)
      refine j_iinc (i := 2) (x := m2) (d := 1) (L' := [some (.ref p), some (.int x1), some (.int (m2 + (1 : Int32)))]) (q := 15) d_Pan_passDays_12 rfl (by decide) (by decide) rfl rfl rfl ?_
      refine j_goto (q := 2) d_Pan_passDays_15 (by decide) ?_
      refine j_sub (L' := [some (.ref p), some (.int x1), some (.int (m2 + (1 : Int32)))]) ⟨rfl, ⟨rfl, ⟨rfl, trivial⟩⟩⟩ ?_
      exact ih (m2 + (1 : Int32)) X1 Y2
set_option maxRecDepth 4000 in
theorem c_Pan_passDays {K : KK} (hK : kOK K) (p : Nat) (hp : IsP p) (x1 : Int32) (X : HI) (Y : HL) : CT K y_Pan_passDays prog_5_method_23_code 3 none rm_Pan_passDays [.ref p, .int x1] X Y (f_Pan_passDays p x1 X Y) := by
  refine ct_of hK (L := [some (.ref p), some (.int x1), none]) (by decide) ⟨rfl, ⟨rfl, trivial⟩⟩ (Nat.le_of_ble_eq_true rfl) ?_
  unfold f_Pan_passDays
  refine j_iconst (v := 0) (q := 1) d_Pan_passDays_0 (by decide) rfl ?_
  refine j_istore_n (i := 2) (L' := [some (.ref p), some (.int x1), some (.int (0 : Int32))]) (q := 2) d_Pan_passDays_1 rfl (by decide) rfl rfl rfl ?_
  refine j_sub (L' := [some (.ref p), some (.int x1), some (.int (0 : Int32))]) ⟨rfl, ⟨rfl, ⟨rfl, trivial⟩⟩⟩ ?_
  refine jl_Pan_passDays_2 hK p hp x1 _ (fun w3 X4 Y5 => ?_) 256 (0 : Int32) X Y
  exact j_vret d_Pan_passDays_18
def f_Pan_crustBehind (p : Nat) (x1 : Int32) (X : HI) (Y : HL) : Option Out :=
    bv (f_Pan_passDays p x1 X Y) (fun X1 Y2 =>
    bi (f_Pan_crustOfAll p X1 Y2) (fun r5 X3 Y4 =>
    (rI r5 X3 Y4)))
set_option maxRecDepth 4000 in
theorem c_Pan_crustBehind {K : KK} (hK : kOK K) (p : Nat) (hp : IsP p) (x1 : Int32) (X : HI) (Y : HL) : CT K y_Pan_crustBehind prog_5_method_24_code 2 (some .int) rm_Pan_crustBehind [.ref p, .int x1] X Y (f_Pan_crustBehind p x1 X Y) := by
  refine ct_of hK (L := [some (.ref p), some (.int x1)]) (by decide) ⟨rfl, ⟨rfl, trivial⟩⟩ (Nat.le_of_ble_eq_true rfl) ?_
  unfold f_Pan_crustBehind
  refine j_aload_n (i := 0) (x := p) (q := 1) d_Pan_crustBehind_0 rfl rfl rfl ?_
  refine j_iload_n (i := 1) (x := x1) (q := 2) d_Pan_crustBehind_1 rfl rfl rfl ?_
  refine j_callVv (a := p) (S := []) (q := 5) [.int x1] d_Pan_crustBehind_2 mw_Pan_passDays mv_Pan_passDays ml_Pan_114 (ob_P hp) rfl rfl (c_Pan_passDays hK p hp x1 X Y) ⟨⟨rfl, rfl⟩, ⟨Nat.le_of_ble_eq_true rfl, Nat.le_of_ble_eq_true rfl⟩, ⟨Nat.le_refl 0, Nat.le_refl 0⟩⟩ (Nat.le_of_ble_eq_true rfl) rfl (fun X1 Y2 => ?_)
  refine j_aload_n (i := 0) (x := p) (q := 6) d_Pan_crustBehind_5 rfl rfl rfl ?_
  refine j_callVi (a := p) (S := []) (q := 9) [] d_Pan_crustBehind_6 mw_Pan_crustOfAll mv_Pan_crustOfAll ml_Pan_117 (ob_P hp) rfl rfl (c_Pan_crustOfAll hK p hp X1 Y2) ⟨⟨rfl, rfl⟩, ⟨Nat.le_of_ble_eq_true rfl, Nat.le_of_ble_eq_true rfl⟩, ⟨Nat.le_refl 0, Nat.le_refl 0⟩⟩ (Nat.le_of_ble_eq_true rfl) rfl (fun r5 X3 Y4 => ?_)
  exact j_iret d_Pan_crustBehind_9
def b_Pan_isDone_9 (p : Nat) (x1 : Int32) (x2 : Int32) (x3 : Int32) (s0 : Int32) (X : HI) (Y : HL) : Option Out :=
    (if x1 = (0 : Int32) then
    (if s0 = 0 then
    (rI (0 : Int32) X Y)
    else
    (if x3 = 0 then
    bv (f_Pan_passDay p (0 : Int32) X Y) (fun X1 Y2 =>
    (rI (1 : Int32) X1 Y2))
    else
    (rI (0 : Int32) X Y)))
    else
    (if x1 = (1 : Int32) then
    (if s0 = 0 then
    (rI (0 : Int32) X Y)
    else
    bi (f_Pan_takeSea p x3 X Y) (fun r5 X3 Y4 =>
    (if r5 < 0 then
    (rI (0 : Int32) X3 Y4)
    else
    (rI (1 : Int32) X3 Y4))))
    else
    (if x1 = (2 : Int32) then
    bi (f_Pan_letOn p x2 x3 X Y) (fun r8 X6 Y7 =>
    (if r8 < 0 then
    (rI (0 : Int32) X6 Y7)
    else
    (rI (1 : Int32) X6 Y7)))
    else
    (if x1 = (3 : Int32) then
    (if s0 = 0 then
    (rI (0 : Int32) X Y)
    else
    bi (f_Pan_turnGate p x3 X Y) (fun r11 X9 Y10 =>
    (if r11 < 0 then
    (rI (0 : Int32) X9 Y10)
    else
    (rI (1 : Int32) X9 Y10))))
    else
    (if x1 = (4 : Int32) then
    (if s0 = 0 then
    (rI (0 : Int32) X Y)
    else
    bi (f_Pan_rakeUp p x3 X Y) (fun r14 X12 Y13 =>
    (if r14 < 0 then
    (rI (0 : Int32) X12 Y13)
    else
    (rI (1 : Int32) X12 Y13))))
    else
    (if x1 = (5 : Int32) then
    bi (f_Gro_hasPan x2 X Y) (fun r17 X15 Y16 =>
    (if r17 = 0 then
    (rI (0 : Int32) X15 Y16)
    else
    gd (ixb x2 6) (
    (if (X15 (p + 1) x2.toNatClampNeg) < x3 then
    (rI (0 : Int32) X15 Y16)
    else
    (rI (1 : Int32) X15 Y16)))))
    else
    (if x1 = (6 : Int32) then
    bi (f_Gro_hasPan x2 X Y) (fun r20 X18 Y19 =>
    (if r20 = 0 then
    (rI (0 : Int32) X18 Y19)
    else
    bi (f_Pan_crustOf p x2 X18 Y19) (fun r23 X21 Y22 =>
    (if r23 < ((10 : Int32) * x3) then
    (rI (0 : Int32) X21 Y22)
    else
    (rI (1 : Int32) X21 Y22)))))
    else
    (rI (0 : Int32) X Y))))))))
def f_Pan_isDone (p : Nat) (x1 : Int32) (x2 : Int32) (x3 : Int32) (X : HI) (Y : HL) : Option Out :=
    (if x2 = 0 then
    (b_Pan_isDone_9 p x1 x2 x3 (1 : Int32) X Y)
    else
    (b_Pan_isDone_9 p x1 x2 x3 (0 : Int32) X Y))
set_option maxRecDepth 4000 in
theorem jb_Pan_isDone_9 {K : KK} (hK : kOK K) (p : Nat) (hp : IsP p) (x1 : Int32) (x2 : Int32) (x3 : Int32) (s0 : Int32) (X : HI) (Y : HL) : JO K "BrinePans$Pans" prog_5_method_25_code 5 (some .boolean) rm_Pan_isDone 0 0 (MZ K) 9 [some (.ref p), some (.int x1), some (.int x2), some (.int x3), none] [.int s0] X Y (b_Pan_isDone_9 p x1 x2 x3 s0 X Y) := by
  unfold b_Pan_isDone_9
  refine j_istore (i := 4) (L' := [some (.ref p), some (.int x1), some (.int x2), some (.int x3), some (.int s0)]) (q := 11) d_Pan_isDone_9 (by decide) rfl rfl rfl ?_
  refine j_iload_n (i := 1) (x := x1) (q := 12) d_Pan_isDone_11 rfl rfl rfl ?_
  refine j_ite (fun z12_0 => ?_) (fun z12_0 => ?_)
  · refine j_tabIn (z := 0) (t := 56) d_Pan_isDone_12 z12_0 (by decide) (by decide) (by decide) (by decide) ?_
    refine j_iload (i := 4) (x := s0) (q := 58) d_Pan_isDone_56 rfl rfl ?_
    refine j_if_eq (t := 65) (q := 61) d_Pan_isDone_58 (by decide) rfl ?_ ?_
    · refine j_iconst (v := 0) (q := 66) d_Pan_isDone_65 (by decide) rfl ?_
      exact j_zret d_Pan_isDone_66 (by decide)
    · refine j_iload_n (i := 3) (x := x3) (q := 62) d_Pan_isDone_61 rfl rfl rfl ?_
      refine j_if_eq (t := 67) (q := 65) d_Pan_isDone_62 (by decide) rfl ?_ ?_
      · refine j_aload_n (i := 0) (x := p) (q := 68) d_Pan_isDone_67 rfl rfl rfl ?_
        refine j_iconst (v := 0) (q := 69) d_Pan_isDone_68 (by decide) rfl ?_
        refine j_callVv (a := p) (S := []) (q := 72) [.int (0 : Int32)] d_Pan_isDone_69 mw_Pan_passDay mv_Pan_passDay ml_Pan_110 (ob_P hp) rfl rfl (c_Pan_passDay hK p hp (0 : Int32) X Y) ⟨⟨rfl, rfl⟩, ⟨Nat.le_of_ble_eq_true rfl, Nat.le_of_ble_eq_true rfl⟩, ⟨Nat.le_refl 0, Nat.le_refl 0⟩⟩ (Nat.le_of_ble_eq_true rfl) rfl (fun X1 Y2 => ?_)
        refine j_iconst (v := 1) (q := 73) d_Pan_isDone_72 (by decide) rfl ?_
        exact j_zret d_Pan_isDone_73 (by decide)
      · refine j_iconst (v := 0) (q := 66) d_Pan_isDone_65 (by decide) rfl ?_
        exact j_zret d_Pan_isDone_66 (by decide)
  · skip
    refine j_ite (fun z12_1 => ?_) (fun z12_1 => ?_)
    · refine j_tabIn (z := 1) (t := 74) d_Pan_isDone_12 z12_1 (by decide) (by decide) (by decide) (by decide) ?_
      refine j_iload (i := 4) (x := s0) (q := 76) d_Pan_isDone_74 rfl rfl ?_
      refine j_if_eq (t := 91) (q := 79) d_Pan_isDone_76 (by decide) rfl ?_ ?_
      · refine j_iconst (v := 0) (q := 92) d_Pan_isDone_91 (by decide) rfl ?_
        exact j_zret d_Pan_isDone_92 (by decide)
      · refine j_aload_n (i := 0) (x := p) (q := 80) d_Pan_isDone_79 rfl rfl rfl ?_
        refine j_iload_n (i := 3) (x := x3) (q := 81) d_Pan_isDone_80 rfl rfl rfl ?_
        refine j_callVi (a := p) (S := []) (q := 84) [.int x3] d_Pan_isDone_81 mw_Pan_takeSea mv_Pan_takeSea ml_Pan_120 (ob_P hp) rfl rfl (c_Pan_takeSea hK p hp x3 X Y) ⟨⟨rfl, rfl⟩, ⟨Nat.le_of_ble_eq_true rfl, Nat.le_of_ble_eq_true rfl⟩, ⟨Nat.le_refl 0, Nat.le_refl 0⟩⟩ (Nat.le_of_ble_eq_true rfl) rfl (fun r5 X3 Y4 => ?_)
        refine j_if_lt (t := 91) (q := 87) d_Pan_isDone_84 (by decide) rfl ?_ ?_
        · refine j_iconst (v := 0) (q := 92) d_Pan_isDone_91 (by decide) rfl ?_
          exact j_zret d_Pan_isDone_92 (by decide)
        · refine j_iconst (v := 1) (q := 88) d_Pan_isDone_87 (by decide) rfl ?_
          refine j_goto (q := 92) d_Pan_isDone_88 (by decide) ?_
          exact j_zret d_Pan_isDone_92 (by decide)
    · skip
      refine j_ite (fun z12_2 => ?_) (fun z12_2 => ?_)
      · refine j_tabIn (z := 2) (t := 93) d_Pan_isDone_12 z12_2 (by decide) (by decide) (by decide) (by decide) ?_
        refine j_aload_n (i := 0) (x := p) (q := 94) d_Pan_isDone_93 rfl rfl rfl ?_
        refine j_iload_n (i := 2) (x := x2) (q := 95) d_Pan_isDone_94 rfl rfl rfl ?_
        refine j_iload_n (i := 3) (x := x3) (q := 96) d_Pan_isDone_95 rfl rfl rfl ?_
        refine j_callVi (a := p) (S := []) (q := 99) [.int x2, .int x3] d_Pan_isDone_96 mw_Pan_letOn mv_Pan_letOn ml_Pan_92 (ob_P hp) rfl rfl (c_Pan_letOn hK p hp x2 x3 X Y) ⟨⟨rfl, rfl⟩, ⟨Nat.le_of_ble_eq_true rfl, Nat.le_of_ble_eq_true rfl⟩, ⟨Nat.le_refl 0, Nat.le_refl 0⟩⟩ (Nat.le_of_ble_eq_true rfl) rfl (fun r8 X6 Y7 => ?_)
        refine j_if_lt (t := 106) (q := 102) d_Pan_isDone_99 (by decide) rfl ?_ ?_
        · refine j_iconst (v := 0) (q := 107) d_Pan_isDone_106 (by decide) rfl ?_
          exact j_zret d_Pan_isDone_107 (by decide)
        · refine j_iconst (v := 1) (q := 103) d_Pan_isDone_102 (by decide) rfl ?_
          refine j_goto (q := 107) d_Pan_isDone_103 (by decide) ?_
          exact j_zret d_Pan_isDone_107 (by decide)
      · skip
        refine j_ite (fun z12_3 => ?_) (fun z12_3 => ?_)
        · refine j_tabIn (z := 3) (t := 108) d_Pan_isDone_12 z12_3 (by decide) (by decide) (by decide) (by decide) ?_
          refine j_iload (i := 4) (x := s0) (q := 110) d_Pan_isDone_108 rfl rfl ?_
          refine j_if_eq (t := 125) (q := 113) d_Pan_isDone_110 (by decide) rfl ?_ ?_
          · refine j_iconst (v := 0) (q := 126) d_Pan_isDone_125 (by decide) rfl ?_
            exact j_zret d_Pan_isDone_126 (by decide)
          · refine j_aload_n (i := 0) (x := p) (q := 114) d_Pan_isDone_113 rfl rfl rfl ?_
            refine j_iload_n (i := 3) (x := x3) (q := 115) d_Pan_isDone_114 rfl rfl rfl ?_
            refine j_callVi (a := p) (S := []) (q := 118) [.int x3] d_Pan_isDone_115 mw_Pan_turnGate mv_Pan_turnGate ml_Pan_123 (ob_P hp) rfl rfl (c_Pan_turnGate hK p hp x3 X Y) ⟨⟨rfl, rfl⟩, ⟨Nat.le_of_ble_eq_true rfl, Nat.le_of_ble_eq_true rfl⟩, ⟨Nat.le_refl 0, Nat.le_refl 0⟩⟩ (Nat.le_of_ble_eq_true rfl) rfl (fun r11 X9 Y10 => ?_)
            refine j_if_lt (t := 125) (q := 121) d_Pan_isDone_118 (by decide) rfl ?_ ?_
            · refine j_iconst (v := 0) (q := 126) d_Pan_isDone_125 (by decide) rfl ?_
              exact j_zret d_Pan_isDone_126 (by decide)
            · refine j_iconst (v := 1) (q := 122) d_Pan_isDone_121 (by decide) rfl ?_
              refine j_goto (q := 126) d_Pan_isDone_122 (by decide) ?_
              exact j_zret d_Pan_isDone_126 (by decide)
        · skip
          refine j_ite (fun z12_4 => ?_) (fun z12_4 => ?_)
          · refine j_tabIn (z := 4) (t := 127) d_Pan_isDone_12 z12_4 (by decide) (by decide) (by decide) (by decide) ?_
            refine j_iload (i := 4) (x := s0) (q := 129) d_Pan_isDone_127 rfl rfl ?_
            refine j_if_eq (t := 144) (q := 132) d_Pan_isDone_129 (by decide) rfl ?_ ?_
            · refine j_iconst (v := 0) (q := 145) d_Pan_isDone_144 (by decide) rfl ?_
              exact j_zret d_Pan_isDone_145 (by decide)
            · refine j_aload_n (i := 0) (x := p) (q := 133) d_Pan_isDone_132 rfl rfl rfl ?_
              refine j_iload_n (i := 3) (x := x3) (q := 134) d_Pan_isDone_133 rfl rfl rfl ?_
              refine j_callVi (a := p) (S := []) (q := 137) [.int x3] d_Pan_isDone_134 mw_Pan_rakeUp mv_Pan_rakeUp ml_Pan_126 (ob_P hp) rfl rfl (c_Pan_rakeUp hK p hp x3 X Y) ⟨⟨rfl, rfl⟩, ⟨Nat.le_of_ble_eq_true rfl, Nat.le_of_ble_eq_true rfl⟩, ⟨Nat.le_refl 0, Nat.le_refl 0⟩⟩ (Nat.le_of_ble_eq_true rfl) rfl (fun r14 X12 Y13 => ?_)
              refine j_if_lt (t := 144) (q := 140) d_Pan_isDone_137 (by decide) rfl ?_ ?_
              · refine j_iconst (v := 0) (q := 145) d_Pan_isDone_144 (by decide) rfl ?_
                exact j_zret d_Pan_isDone_145 (by decide)
              · refine j_iconst (v := 1) (q := 141) d_Pan_isDone_140 (by decide) rfl ?_
                refine j_goto (q := 145) d_Pan_isDone_141 (by decide) ?_
                exact j_zret d_Pan_isDone_145 (by decide)
          · skip
            refine j_ite (fun z12_5 => ?_) (fun z12_5 => ?_)
            · refine j_tabIn (z := 5) (t := 146) d_Pan_isDone_12 z12_5 (by decide) (by decide) (by decide) (by decide) ?_
              refine j_aload_n (i := 0) (x := p) (q := 147) d_Pan_isDone_146 rfl rfl rfl ?_
              refine j_get (v := .ref 3) (q := 150) d_Pan_isDone_147 fk_Pan_28 (fv_P0 hp) rfl ?_
              refine j_iload_n (i := 2) (x := x2) (q := 151) d_Pan_isDone_150 rfl rfl rfl ?_
              refine j_callVNi (a := 3) (S := []) (q := 154) [.int x2] d_Pan_isDone_151 mw_Gro_hasPan mv_Gro_hasPan ml_Pan_64 ob_3 rfl rfl (c_Gro_hasPan hK x2 X Y) ⟨⟨rfl, rfl⟩, ⟨Nat.le_of_ble_eq_true rfl, Nat.le_of_ble_eq_true rfl⟩, ⟨Nat.le_refl 0, Nat.le_refl 0⟩⟩ (Nat.le_of_ble_eq_true rfl) rfl (fun r17 X15 Y16 => ?_)
              refine j_if_eq (t := 171) (q := 157) d_Pan_isDone_154 (by decide) rfl ?_ ?_
              · refine j_iconst (v := 0) (q := 172) d_Pan_isDone_171 (by decide) rfl ?_
                exact j_zret d_Pan_isDone_172 (by decide)
              · refine j_aload_n (i := 0) (x := p) (q := 158) d_Pan_isDone_157 rfl rfl rfl ?_
                refine j_get (v := .ref (p + 1)) (q := 161) d_Pan_isDone_158 fk_Pan_9 (fv_P1 hp) rfl ?_
                refine j_iload_n (i := 2) (x := x2) (q := 162) d_Pan_isDone_161 rfl rfl rfl ?_
                refine j_iald (q := 163) d_Pan_isDone_162 (ai_P1 hp) rfl ?_
                refine j_iload_n (i := 3) (x := x3) (q := 164) d_Pan_isDone_163 rfl rfl rfl ?_
                refine j_icmp_lt (t := 171) (q := 167) d_Pan_isDone_164 (by decide) rfl ?_ ?_
                · refine j_iconst (v := 0) (q := 172) d_Pan_isDone_171 (by decide) rfl ?_
                  exact j_zret d_Pan_isDone_172 (by decide)
                · refine j_iconst (v := 1) (q := 168) d_Pan_isDone_167 (by decide) rfl ?_
                  refine j_goto (q := 172) d_Pan_isDone_168 (by decide) ?_
                  exact j_zret d_Pan_isDone_172 (by decide)
            · skip
              refine j_ite (fun z12_6 => ?_) (fun z12_6 => ?_)
              · refine j_tabIn (z := 6) (t := 173) d_Pan_isDone_12 z12_6 (by decide) (by decide) (by decide) (by decide) ?_
                refine j_aload_n (i := 0) (x := p) (q := 174) d_Pan_isDone_173 rfl rfl rfl ?_
                refine j_get (v := .ref 3) (q := 177) d_Pan_isDone_174 fk_Pan_28 (fv_P0 hp) rfl ?_
                refine j_iload_n (i := 2) (x := x2) (q := 178) d_Pan_isDone_177 rfl rfl rfl ?_
                refine j_callVNi (a := 3) (S := []) (q := 181) [.int x2] d_Pan_isDone_178 mw_Gro_hasPan mv_Gro_hasPan ml_Pan_64 ob_3 rfl rfl (c_Gro_hasPan hK x2 X Y) ⟨⟨rfl, rfl⟩, ⟨Nat.le_of_ble_eq_true rfl, Nat.le_of_ble_eq_true rfl⟩, ⟨Nat.le_refl 0, Nat.le_refl 0⟩⟩ (Nat.le_of_ble_eq_true rfl) rfl (fun r20 X18 Y19 => ?_)
                refine j_if_eq (t := 200) (q := 184) d_Pan_isDone_181 (by decide) rfl ?_ ?_
                · refine j_iconst (v := 0) (q := 201) d_Pan_isDone_200 (by decide) rfl ?_
                  exact j_zret d_Pan_isDone_201 (by decide)
                · refine j_aload_n (i := 0) (x := p) (q := 185) d_Pan_isDone_184 rfl rfl rfl ?_
                  refine j_iload_n (i := 2) (x := x2) (q := 186) d_Pan_isDone_185 rfl rfl rfl ?_
                  refine j_callVi (a := p) (S := []) (q := 189) [.int x2] d_Pan_isDone_186 mw_Pan_crustOf mv_Pan_crustOf ml_Pan_48 (ob_P hp) rfl rfl (c_Pan_crustOf hK p hp x2 X18 Y19) ⟨⟨rfl, rfl⟩, ⟨Nat.le_of_ble_eq_true rfl, Nat.le_of_ble_eq_true rfl⟩, ⟨Nat.le_refl 0, Nat.le_refl 0⟩⟩ (Nat.le_of_ble_eq_true rfl) rfl (fun r23 X21 Y22 => ?_)
                  refine j_bipush (v := 10) (q := 191) d_Pan_isDone_189 (by decide +kernel) rfl ?_
                  refine j_iload_n (i := 3) (x := x3) (q := 192) d_Pan_isDone_191 rfl rfl rfl ?_
                  refine j_imul (q := 193) d_Pan_isDone_192 rfl ?_
                  refine j_icmp_lt (t := 200) (q := 196) d_Pan_isDone_193 (by decide) rfl ?_ ?_
                  · refine j_iconst (v := 0) (q := 201) d_Pan_isDone_200 (by decide) rfl ?_
                    exact j_zret d_Pan_isDone_201 (by decide)
                  · refine j_iconst (v := 1) (q := 197) d_Pan_isDone_196 (by decide) rfl ?_
                    refine j_goto (q := 201) d_Pan_isDone_197 (by decide) ?_
                    exact j_zret d_Pan_isDone_201 (by decide)
              · skip
                refine j_tabOut (t := 202) d_Pan_isDone_12 (tab_out 6 (fun j hj => by rcases (show j = 0 ∨ j = 1 ∨ j = 2 ∨ j = 3 ∨ j = 4 ∨ j = 5 ∨ j = 6 by omega) with rfl | rfl | rfl | rfl | rfl | rfl | rfl <;> first | exact ne_toInt z12_0 | exact ne_toInt z12_1 | exact ne_toInt z12_2 | exact ne_toInt z12_3 | exact ne_toInt z12_4 | exact ne_toInt z12_5 | exact ne_toInt z12_6)) (by decide) ?_
                refine j_iconst (v := 0) (q := 203) d_Pan_isDone_202 (by decide) rfl ?_
                exact j_zret d_Pan_isDone_203 (by decide)
set_option maxRecDepth 4000 in
theorem c_Pan_isDone {K : KK} (hK : kOK K) (p : Nat) (hp : IsP p) (x1 : Int32) (x2 : Int32) (x3 : Int32) (X : HI) (Y : HL) : CT K y_Pan_isDone prog_5_method_25_code 5 (some .boolean) rm_Pan_isDone [.ref p, .int x1, .int x2, .int x3] X Y (f_Pan_isDone p x1 x2 x3 X Y) := by
  refine ct_of hK (L := [some (.ref p), some (.int x1), some (.int x2), some (.int x3), none]) (by decide) ⟨rfl, ⟨rfl, ⟨rfl, ⟨rfl, trivial⟩⟩⟩⟩ (Nat.le_of_ble_eq_true rfl) ?_
  unfold f_Pan_isDone
  refine j_iload_n (i := 2) (x := x2) (q := 1) d_Pan_isDone_0 rfl rfl rfl ?_
  refine j_if_ne (t := 8) (q := 4) d_Pan_isDone_1 (by decide) rfl ?_ ?_
  · refine j_iconst (v := 0) (q := 9) d_Pan_isDone_8 (by decide) rfl ?_
    refine j_sub (L' := [some (.ref p), some (.int x1), some (.int x2), some (.int x3), none]) ⟨rfl, ⟨rfl, ⟨rfl, ⟨rfl, trivial⟩⟩⟩⟩ ?_
    exact jb_Pan_isDone_9 hK p hp x1 x2 x3 (0 : Int32) X Y
  · refine j_iconst (v := 1) (q := 5) d_Pan_isDone_4 (by decide) rfl ?_
    refine j_goto (q := 9) d_Pan_isDone_5 (by decide) ?_
    refine j_sub (L' := [some (.ref p), some (.int x1), some (.int x2), some (.int x3), none]) ⟨rfl, ⟨rfl, ⟨rfl, ⟨rfl, trivial⟩⟩⟩⟩ ?_
    exact jb_Pan_isDone_9 hK p hp x1 x2 x3 (1 : Int32) X Y
def f_Pan_befall (p : Nat) (x1 : Int32) (X : HI) (Y : HL) : Option Out :=
    (if (5 : Int32) ≤ x1 then
    (if (10 : Int32) ≤ x1 then
    (if (12 : Int32) ≤ x1 then
    bv (f_Pan_passDay p (0 : Int32) X Y) (fun X1 Y2 =>
    (rV X1 Y2))
    else
    bi (f_Pan_takeSea p (3 : Int32) X Y) (fun r5 X3 Y4 =>
    (rV X3 Y4)))
    else
    bi (f_Pan_letOn p (x1 - (5 : Int32)) (1 : Int32) X Y) (fun r8 X6 Y7 =>
    (rV X6 Y7)))
    else
    bi (f_Pan_turnGate p x1 X Y) (fun r11 X9 Y10 =>
    (rV X9 Y10)))
set_option maxRecDepth 4000 in
theorem c_Pan_befall {K : KK} (hK : kOK K) (p : Nat) (hp : IsP p) (x1 : Int32) (X : HI) (Y : HL) : CT K y_Pan_befall prog_5_method_26_code 2 none rm_Pan_befall [.ref p, .int x1] X Y (f_Pan_befall p x1 X Y) := by
  refine ct_of hK (L := [some (.ref p), some (.int x1)]) (by decide) ⟨rfl, ⟨rfl, trivial⟩⟩ (Nat.le_of_ble_eq_true rfl) ?_
  unfold f_Pan_befall
  refine j_iload_n (i := 1) (x := x1) (q := 1) d_Pan_befall_0 rfl rfl rfl ?_
  refine j_iconst (v := 5) (q := 2) d_Pan_befall_1 (by decide) rfl ?_
  refine j_icmp_ge (t := 14) (q := 5) d_Pan_befall_2 (by decide) rfl ?_ ?_
  · refine j_iload_n (i := 1) (x := x1) (q := 15) d_Pan_befall_14 rfl rfl rfl ?_
    refine j_bipush (v := 10) (q := 17) d_Pan_befall_15 (by decide +kernel) rfl ?_
    refine j_icmp_ge (t := 32) (q := 20) d_Pan_befall_17 (by decide) rfl ?_ ?_
    · refine j_iload_n (i := 1) (x := x1) (q := 33) d_Pan_befall_32 rfl rfl rfl ?_
      refine j_bipush (v := 12) (q := 35) d_Pan_befall_33 (by decide +kernel) rfl ?_
      refine j_icmp_ge (t := 47) (q := 38) d_Pan_befall_35 (by decide) rfl ?_ ?_
      · refine j_aload_n (i := 0) (x := p) (q := 48) d_Pan_befall_47 rfl rfl rfl ?_
        refine j_iconst (v := 0) (q := 49) d_Pan_befall_48 (by decide) rfl ?_
        refine j_callVv (a := p) (S := []) (q := 52) [.int (0 : Int32)] d_Pan_befall_49 mw_Pan_passDay mv_Pan_passDay ml_Pan_110 (ob_P hp) rfl rfl (c_Pan_passDay hK p hp (0 : Int32) X Y) ⟨⟨rfl, rfl⟩, ⟨Nat.le_of_ble_eq_true rfl, Nat.le_of_ble_eq_true rfl⟩, ⟨Nat.le_refl 0, Nat.le_refl 0⟩⟩ (Nat.le_of_ble_eq_true rfl) rfl (fun X1 Y2 => ?_)
        exact j_vret d_Pan_befall_52
      · refine j_aload_n (i := 0) (x := p) (q := 39) d_Pan_befall_38 rfl rfl rfl ?_
        refine j_iconst (v := 3) (q := 40) d_Pan_befall_39 (by decide) rfl ?_
        refine j_callVi (a := p) (S := []) (q := 43) [.int (3 : Int32)] d_Pan_befall_40 mw_Pan_takeSea mv_Pan_takeSea ml_Pan_120 (ob_P hp) rfl rfl (c_Pan_takeSea hK p hp (3 : Int32) X Y) ⟨⟨rfl, rfl⟩, ⟨Nat.le_of_ble_eq_true rfl, Nat.le_of_ble_eq_true rfl⟩, ⟨Nat.le_refl 0, Nat.le_refl 0⟩⟩ (Nat.le_of_ble_eq_true rfl) rfl (fun r5 X3 Y4 => ?_)
        refine j_pop (q := 44) d_Pan_befall_43 rfl rfl ?_
        refine j_goto (q := 52) d_Pan_befall_44 (by decide) ?_
        exact j_vret d_Pan_befall_52
    · refine j_aload_n (i := 0) (x := p) (q := 21) d_Pan_befall_20 rfl rfl rfl ?_
      refine j_iload_n (i := 1) (x := x1) (q := 22) d_Pan_befall_21 rfl rfl rfl ?_
      refine j_iconst (v := 5) (q := 23) d_Pan_befall_22 (by decide) rfl ?_
      refine j_isub (q := 24) d_Pan_befall_23 rfl ?_
      refine j_iconst (v := 1) (q := 25) d_Pan_befall_24 (by decide) rfl ?_
      refine j_callVi (a := p) (S := []) (q := 28) [.int (x1 - (5 : Int32)), .int (1 : Int32)] d_Pan_befall_25 mw_Pan_letOn mv_Pan_letOn ml_Pan_92 (ob_P hp) rfl rfl (c_Pan_letOn hK p hp (x1 - (5 : Int32)) (1 : Int32) X Y) ⟨⟨rfl, rfl⟩, ⟨Nat.le_of_ble_eq_true rfl, Nat.le_of_ble_eq_true rfl⟩, ⟨Nat.le_refl 0, Nat.le_refl 0⟩⟩ (Nat.le_of_ble_eq_true rfl) rfl (fun r8 X6 Y7 => ?_)
      refine j_pop (q := 29) d_Pan_befall_28 rfl rfl ?_
      refine j_goto (q := 52) d_Pan_befall_29 (by decide) ?_
      exact j_vret d_Pan_befall_52
  · refine j_aload_n (i := 0) (x := p) (q := 6) d_Pan_befall_5 rfl rfl rfl ?_
    refine j_iload_n (i := 1) (x := x1) (q := 7) d_Pan_befall_6 rfl rfl rfl ?_
    refine j_callVi (a := p) (S := []) (q := 10) [.int x1] d_Pan_befall_7 mw_Pan_turnGate mv_Pan_turnGate ml_Pan_123 (ob_P hp) rfl rfl (c_Pan_turnGate hK p hp x1 X Y) ⟨⟨rfl, rfl⟩, ⟨Nat.le_of_ble_eq_true rfl, Nat.le_of_ble_eq_true rfl⟩, ⟨Nat.le_refl 0, Nat.le_refl 0⟩⟩ (Nat.le_of_ble_eq_true rfl) rfl (fun r11 X9 Y10 => ?_)
    refine j_pop (q := 11) d_Pan_befall_10 rfl rfl ?_
    refine j_goto (q := 52) d_Pan_befall_11 (by decide) ?_
    exact j_vret d_Pan_befall_52
def f_Int_bitCount (x0 : Int32) (X : HI) (Y : HL) : Option Out :=
    lt (x0 - (((x0.toUInt32 >>> ((1 : Int32).toUInt32 &&& Int32.toUInt32 31)).toInt32) &&& (1431655765 : Int32))) (fun v1 =>
    lt ((v1 &&& (858993459 : Int32)) + (((v1.toUInt32 >>> ((2 : Int32).toUInt32 &&& Int32.toUInt32 31)).toInt32) &&& (858993459 : Int32))) (fun v2 =>
    lt ((v2 + ((v2.toUInt32 >>> ((4 : Int32).toUInt32 &&& Int32.toUInt32 31)).toInt32)) &&& (252645135 : Int32)) (fun v3 =>
    lt (v3 + ((v3.toUInt32 >>> ((8 : Int32).toUInt32 &&& Int32.toUInt32 31)).toInt32)) (fun v4 =>
    lt (v4 + ((v4.toUInt32 >>> ((16 : Int32).toUInt32 &&& Int32.toUInt32 31)).toInt32)) (fun v5 =>
    (rI (v5 &&& (63 : Int32)) X Y))))))
set_option maxRecDepth 4000 in
theorem c_Int_bitCount {K : KK} (hK : kOK K) (x0 : Int32) (X : HI) (Y : HL) : CT K y_Int_bitCount prog_9_method_49_code 1 (some .int) rm_Int_bitCount [.int x0] X Y (f_Int_bitCount x0 X Y) := by
  refine ct_of hK (L := [some (.int x0)]) (by decide) ⟨rfl, trivial⟩ (Nat.le_of_ble_eq_true rfl) ?_
  unfold f_Int_bitCount
  refine j_iload_n (i := 0) (x := x0) (q := 1) d_Int_bitCount_0 rfl rfl rfl ?_
  refine j_iload_n (i := 0) (x := x0) (q := 2) d_Int_bitCount_1 rfl rfl rfl ?_
  refine j_iconst (v := 1) (q := 3) d_Int_bitCount_2 (by decide) rfl ?_
  refine j_iushr (q := 4) d_Int_bitCount_3 rfl ?_
  refine j_ldcw (v := 1431655765) (q := 7) d_Int_bitCount_4 (gw_t 427 (by decide +kernel) (by decide +kernel)) rfl ?_
  refine j_iand (q := 8) d_Int_bitCount_7 rfl ?_
  refine j_isub (q := 9) d_Int_bitCount_8 rfl ?_
  refine j_lt (fun v1 => ?_)
  refine j_istore_n (i := 0) (L' := [some (.int v1)]) (q := 10) d_Int_bitCount_9 rfl (by decide) rfl rfl rfl ?_
  refine j_iload_n (i := 0) (x := v1) (q := 11) d_Int_bitCount_10 rfl rfl rfl ?_
  refine j_ldcw (v := 858993459) (q := 14) d_Int_bitCount_11 (gw_t 428 (by decide +kernel) (by decide +kernel)) rfl ?_
  refine j_iand (q := 15) d_Int_bitCount_14 rfl ?_
  refine j_iload_n (i := 0) (x := v1) (q := 16) d_Int_bitCount_15 rfl rfl rfl ?_
  refine j_iconst (v := 2) (q := 17) d_Int_bitCount_16 (by decide) rfl ?_
  refine j_iushr (q := 18) d_Int_bitCount_17 rfl ?_
  refine j_ldcw (v := 858993459) (q := 21) d_Int_bitCount_18 (gw_t 428 (by decide +kernel) (by decide +kernel)) rfl ?_
  refine j_iand (q := 22) d_Int_bitCount_21 rfl ?_
  refine j_iadd (q := 23) d_Int_bitCount_22 rfl ?_
  refine j_lt (fun v2 => ?_)
  refine j_istore_n (i := 0) (L' := [some (.int v2)]) (q := 24) d_Int_bitCount_23 rfl (by decide) rfl rfl rfl ?_
  refine j_iload_n (i := 0) (x := v2) (q := 25) d_Int_bitCount_24 rfl rfl rfl ?_
  refine j_iload_n (i := 0) (x := v2) (q := 26) d_Int_bitCount_25 rfl rfl rfl ?_
  refine j_iconst (v := 4) (q := 27) d_Int_bitCount_26 (by decide) rfl ?_
  refine j_iushr (q := 28) d_Int_bitCount_27 rfl ?_
  refine j_iadd (q := 29) d_Int_bitCount_28 rfl ?_
  refine j_ldcw (v := 252645135) (q := 32) d_Int_bitCount_29 (gw_t 429 (by decide +kernel) (by decide +kernel)) rfl ?_
  refine j_iand (q := 33) d_Int_bitCount_32 rfl ?_
  refine j_lt (fun v3 => ?_)
  refine j_istore_n (i := 0) (L' := [some (.int v3)]) (q := 34) d_Int_bitCount_33 rfl (by decide) rfl rfl rfl ?_
  refine j_iload_n (i := 0) (x := v3) (q := 35) d_Int_bitCount_34 rfl rfl rfl ?_
  refine j_iload_n (i := 0) (x := v3) (q := 36) d_Int_bitCount_35 rfl rfl rfl ?_
  refine j_bipush (v := 8) (q := 38) d_Int_bitCount_36 (by decide +kernel) rfl ?_
  refine j_iushr (q := 39) d_Int_bitCount_38 rfl ?_
  refine j_iadd (q := 40) d_Int_bitCount_39 rfl ?_
  refine j_lt (fun v4 => ?_)
  refine j_istore_n (i := 0) (L' := [some (.int v4)]) (q := 41) d_Int_bitCount_40 rfl (by decide) rfl rfl rfl ?_
  refine j_iload_n (i := 0) (x := v4) (q := 42) d_Int_bitCount_41 rfl rfl rfl ?_
  refine j_iload_n (i := 0) (x := v4) (q := 43) d_Int_bitCount_42 rfl rfl rfl ?_
  refine j_bipush (v := 16) (q := 45) d_Int_bitCount_43 (by decide +kernel) rfl ?_
  refine j_iushr (q := 46) d_Int_bitCount_45 rfl ?_
  refine j_iadd (q := 47) d_Int_bitCount_46 rfl ?_
  refine j_lt (fun v5 => ?_)
  refine j_istore_n (i := 0) (L' := [some (.int v5)]) (q := 48) d_Int_bitCount_47 rfl (by decide) rfl rfl rfl ?_
  refine j_iload_n (i := 0) (x := v5) (q := 49) d_Int_bitCount_48 rfl rfl rfl ?_
  refine j_bipush (v := 63) (q := 51) d_Int_bitCount_49 (by decide +kernel) rfl ?_
  refine j_iand (q := 52) d_Int_bitCount_51 rfl ?_
  exact j_iret d_Int_bitCount_52
def f_Mth_abs (x0 : Int32) (X : HI) (Y : HL) : Option Out :=
    (if 0 ≤ x0 then
    (rI x0 X Y)
    else
    (rI (-x0) X Y))
set_option maxRecDepth 4000 in
theorem c_Mth_abs {K : KK} (hK : kOK K) (x0 : Int32) (X : HI) (Y : HL) : CT K y_Mth_abs prog_10_method_59_code 1 (some .int) rm_Mth_abs [.int x0] X Y (f_Mth_abs x0 X Y) := by
  refine ct_of hK (L := [some (.int x0)]) (by decide) ⟨rfl, trivial⟩ (Nat.le_of_ble_eq_true rfl) ?_
  unfold f_Mth_abs
  refine j_iload_n (i := 0) (x := x0) (q := 1) d_Mth_abs_0 rfl rfl rfl ?_
  refine j_if_ge (t := 9) (q := 4) d_Mth_abs_1 (by decide) rfl ?_ ?_
  · refine j_iload_n (i := 0) (x := x0) (q := 10) d_Mth_abs_9 rfl rfl rfl ?_
    exact j_iret d_Mth_abs_10
  · refine j_iload_n (i := 0) (x := x0) (q := 5) d_Mth_abs_4 rfl rfl rfl ?_
    refine j_ineg (q := 6) d_Mth_abs_5 rfl ?_
    refine j_goto (q := 10) d_Mth_abs_6 (by decide) ?_
    exact j_iret d_Mth_abs_10
end
