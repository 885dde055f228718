section
-- ===== PART A: goes FIRST, ahead of the names: the tables' words, and 'selects' of the private methods out of them =====
/-- a private method of a class that the tables say can be made, by its rows of tables_1 -/
def lw_okq (q : MethodName × Nat) : Prop := (q.1.cls ≠ "java/lang/invoke/MethodHandle" ∧ q.1.cls ≠ "java/lang/invoke/VarHandle") ∧ Cond.instantiable q.1.cls q.2 ∈ tables_1 ∧ Cond.privateMethod q.1 ∈ tables_1 ∧ Cond.instanceMethod q.1 ∈ tables_1
theorem lw_p0 : lw_okq (⟨"BrinePans$Text", "append", "(I)I"⟩, 2) := ⟨⟨by decide +kernel, by decide +kernel⟩, List.mem_of_getElem? (i := 19) (by decide +kernel), List.mem_of_getElem? (i := 170) (by decide +kernel), List.mem_of_getElem? (i := 171) (by decide +kernel)⟩
theorem lw_p1 : lw_okq (⟨"BrinePans$Text", "clear", "()I"⟩, 2) := ⟨⟨by decide +kernel, by decide +kernel⟩, List.mem_of_getElem? (i := 19) (by decide +kernel), List.mem_of_getElem? (i := 178) (by decide +kernel), List.mem_of_getElem? (i := 179) (by decide +kernel)⟩
theorem lw_p2 : lw_okq (⟨"BrinePans$Text", "firstFault", "()I"⟩, 2) := ⟨⟨by decide +kernel, by decide +kernel⟩, List.mem_of_getElem? (i := 19) (by decide +kernel), List.mem_of_getElem? (i := 186) (by decide +kernel), List.mem_of_getElem? (i := 187) (by decide +kernel)⟩
theorem lw_p3 : lw_okq (⟨"BrinePans$Text", "layOut", "(LBrinePans$Ground;LBrinePans$Pans;)V"⟩, 2) := ⟨⟨by decide +kernel, by decide +kernel⟩, List.mem_of_getElem? (i := 19) (by decide +kernel), List.mem_of_getElem? (i := 203) (by decide +kernel), List.mem_of_getElem? (i := 204) (by decide +kernel)⟩
theorem lw_p4 : lw_okq (⟨"BrinePans$Ground", "clear", "()V"⟩, 4) := ⟨⟨by decide +kernel, by decide +kernel⟩, List.mem_of_getElem? (i := 34) (by decide +kernel), List.mem_of_getElem? (i := 207) (by decide +kernel), List.mem_of_getElem? (i := 208) (by decide +kernel)⟩
theorem lw_p5 : lw_okq (⟨"BrinePans$Pans", "clear", "()V"⟩, 6) := ⟨⟨by decide +kernel, by decide +kernel⟩, List.mem_of_getElem? (i := 59) (by decide +kernel), List.mem_of_getElem? (i := 211) (by decide +kernel), List.mem_of_getElem? (i := 212) (by decide +kernel)⟩
theorem lw_p6 : lw_okq (⟨"BrinePans$Pans", "emptyAllBut", "(I)V"⟩, 6) := ⟨⟨by decide +kernel, by decide +kernel⟩, List.mem_of_getElem? (i := 59) (by decide +kernel), List.mem_of_getElem? (i := 215) (by decide +kernel), List.mem_of_getElem? (i := 216) (by decide +kernel)⟩
theorem lw_p7 : lw_okq (⟨"BrinePans$Ground", "addPan", "(I)V"⟩, 4) := ⟨⟨by decide +kernel, by decide +kernel⟩, List.mem_of_getElem? (i := 34) (by decide +kernel), List.mem_of_getElem? (i := 219) (by decide +kernel), List.mem_of_getElem? (i := 220) (by decide +kernel)⟩
theorem lw_p8 : lw_okq (⟨"BrinePans$Ground", "addSky", "(I)V"⟩, 4) := ⟨⟨by decide +kernel, by decide +kernel⟩, List.mem_of_getElem? (i := 34) (by decide +kernel), List.mem_of_getElem? (i := 223) (by decide +kernel), List.mem_of_getElem? (i := 224) (by decide +kernel)⟩
theorem lw_p9 : lw_okq (⟨"BrinePans$Acts", "clear", "()V"⟩, 3) := ⟨⟨by decide +kernel, by decide +kernel⟩, List.mem_of_getElem? (i := 91) (by decide +kernel), List.mem_of_getElem? (i := 227) (by decide +kernel), List.mem_of_getElem? (i := 228) (by decide +kernel)⟩
theorem lw_p10 : lw_okq (⟨"BrinePans$Ground", "skyOf", "(I)I"⟩, 4) := ⟨⟨by decide +kernel, by decide +kernel⟩, List.mem_of_getElem? (i := 34) (by decide +kernel), List.mem_of_getElem? (i := 235) (by decide +kernel), List.mem_of_getElem? (i := 236) (by decide +kernel)⟩
theorem lw_p11 : lw_okq (⟨"BrinePans$Pans", "sumOf", "([I)I"⟩, 6) := ⟨⟨by decide +kernel, by decide +kernel⟩, List.mem_of_getElem? (i := 59) (by decide +kernel), List.mem_of_getElem? (i := 239) (by decide +kernel), List.mem_of_getElem? (i := 240) (by decide +kernel)⟩
theorem lw_p12 : lw_okq (⟨"BrinePans$Pans", "crustOfAll", "()I"⟩, 6) := ⟨⟨by decide +kernel, by decide +kernel⟩, List.mem_of_getElem? (i := 59) (by decide +kernel), List.mem_of_getElem? (i := 243) (by decide +kernel), List.mem_of_getElem? (i := 244) (by decide +kernel)⟩
theorem lw_p13 : lw_okq (⟨"BrinePans$Pans", "crustOf", "(I)I"⟩, 6) := ⟨⟨by decide +kernel, by decide +kernel⟩, List.mem_of_getElem? (i := 59) (by decide +kernel), List.mem_of_getElem? (i := 247) (by decide +kernel), List.mem_of_getElem? (i := 248) (by decide +kernel)⟩
theorem lw_p14 : lw_okq (⟨"BrinePans$Pans", "brineOf", "(I)I"⟩, 6) := ⟨⟨by decide +kernel, by decide +kernel⟩, List.mem_of_getElem? (i := 59) (by decide +kernel), List.mem_of_getElem? (i := 251) (by decide +kernel), List.mem_of_getElem? (i := 252) (by decide +kernel)⟩
theorem lw_p15 : lw_okq (⟨"BrinePans$Pans", "rakeable", "()I"⟩, 6) := ⟨⟨by decide +kernel, by decide +kernel⟩, List.mem_of_getElem? (i := 59) (by decide +kernel), List.mem_of_getElem? (i := 255) (by decide +kernel), List.mem_of_getElem? (i := 256) (by decide +kernel)⟩
def lw_privs_1 : List (MethodName × Nat) := [(⟨"BrinePans$Text", "append", "(I)I"⟩, 2), (⟨"BrinePans$Text", "clear", "()I"⟩, 2), (⟨"BrinePans$Text", "firstFault", "()I"⟩, 2), (⟨"BrinePans$Text", "layOut", "(LBrinePans$Ground;LBrinePans$Pans;)V"⟩, 2), (⟨"BrinePans$Ground", "clear", "()V"⟩, 4), (⟨"BrinePans$Pans", "clear", "()V"⟩, 6), (⟨"BrinePans$Pans", "emptyAllBut", "(I)V"⟩, 6), (⟨"BrinePans$Ground", "addPan", "(I)V"⟩, 4), (⟨"BrinePans$Ground", "addSky", "(I)V"⟩, 4), (⟨"BrinePans$Acts", "clear", "()V"⟩, 3), (⟨"BrinePans$Ground", "skyOf", "(I)I"⟩, 4), (⟨"BrinePans$Pans", "sumOf", "([I)I"⟩, 6), (⟨"BrinePans$Pans", "crustOfAll", "()I"⟩, 6), (⟨"BrinePans$Pans", "crustOf", "(I)I"⟩, 6), (⟨"BrinePans$Pans", "brineOf", "(I)I"⟩, 6), (⟨"BrinePans$Pans", "rakeable", "()I"⟩, 6)]
theorem lw_r1 : ∀ q ∈ lw_privs_1, lw_okq q := List.forall_mem_cons.mpr ⟨lw_p0, List.forall_mem_cons.mpr ⟨lw_p1, List.forall_mem_cons.mpr ⟨lw_p2, List.forall_mem_cons.mpr ⟨lw_p3, List.forall_mem_cons.mpr ⟨lw_p4, List.forall_mem_cons.mpr ⟨lw_p5, List.forall_mem_cons.mpr ⟨lw_p6, List.forall_mem_cons.mpr ⟨lw_p7, List.forall_mem_cons.mpr ⟨lw_p8, List.forall_mem_cons.mpr ⟨lw_p9, List.forall_mem_cons.mpr ⟨lw_p10, List.forall_mem_cons.mpr ⟨lw_p11, List.forall_mem_cons.mpr ⟨lw_p12, List.forall_mem_cons.mpr ⟨lw_p13, List.forall_mem_cons.mpr ⟨lw_p14, List.forall_mem_cons.mpr ⟨lw_p15, fun _ h => absurd h List.not_mem_nil⟩⟩⟩⟩⟩⟩⟩⟩⟩⟩⟩⟩⟩⟩⟩⟩
theorem lw_p16 : lw_okq (⟨"BrinePans$Pans", "canRake", "(I)Z"⟩, 6) := ⟨⟨by decide +kernel, by decide +kernel⟩, List.mem_of_getElem? (i := 59) (by decide +kernel), List.mem_of_getElem? (i := 259) (by decide +kernel), List.mem_of_getElem? (i := 260) (by decide +kernel)⟩
theorem lw_p17 : lw_okq (⟨"BrinePans$Ground", "hasPan", "(I)Z"⟩, 4) := ⟨⟨by decide +kernel, by decide +kernel⟩, List.mem_of_getElem? (i := 34) (by decide +kernel), List.mem_of_getElem? (i := 267) (by decide +kernel), List.mem_of_getElem? (i := 268) (by decide +kernel)⟩
theorem lw_p18 : lw_okq (⟨"BrinePans$Pans", "roomOf", "(I)I"⟩, 6) := ⟨⟨by decide +kernel, by decide +kernel⟩, List.mem_of_getElem? (i := 59) (by decide +kernel), List.mem_of_getElem? (i := 273) (by decide +kernel), List.mem_of_getElem? (i := 274) (by decide +kernel)⟩
theorem lw_p19 : lw_okq (⟨"BrinePans$Ground", "depthOf", "(I)I"⟩, 4) := ⟨⟨by decide +kernel, by decide +kernel⟩, List.mem_of_getElem? (i := 34) (by decide +kernel), List.mem_of_getElem? (i := 277) (by decide +kernel), List.mem_of_getElem? (i := 278) (by decide +kernel)⟩
theorem lw_p20 : lw_okq (⟨"BrinePans", "fromNow", "()LBrinePans$Pans;"⟩, 11) := ⟨⟨by decide +kernel, by decide +kernel⟩, List.mem_of_getElem? (i := 11) (by decide +kernel), List.mem_of_getElem? (i := 285) (by decide +kernel), List.mem_of_getElem? (i := 286) (by decide +kernel)⟩
theorem lw_p21 : lw_okq (⟨"BrinePans$Pans", "copy", "(LBrinePans$Pans;)V"⟩, 6) := ⟨⟨by decide +kernel, by decide +kernel⟩, List.mem_of_getElem? (i := 59) (by decide +kernel), List.mem_of_getElem? (i := 289) (by decide +kernel), List.mem_of_getElem? (i := 290) (by decide +kernel)⟩
theorem lw_p22 : lw_okq (⟨"BrinePans$Pans", "passDay", "(Z)V"⟩, 6) := ⟨⟨by decide +kernel, by decide +kernel⟩, List.mem_of_getElem? (i := 59) (by decide +kernel), List.mem_of_getElem? (i := 293) (by decide +kernel), List.mem_of_getElem? (i := 294) (by decide +kernel)⟩
theorem lw_p23 : lw_okq (⟨"BrinePans$Ground", "gateCount", "()I"⟩, 4) := ⟨⟨by decide +kernel, by decide +kernel⟩, List.mem_of_getElem? (i := 34) (by decide +kernel), List.mem_of_getElem? (i := 297) (by decide +kernel), List.mem_of_getElem? (i := 298) (by decide +kernel)⟩
theorem lw_p24 : lw_okq (⟨"BrinePans$Pans", "isOpen", "(I)Z"⟩, 6) := ⟨⟨by decide +kernel, by decide +kernel⟩, List.mem_of_getElem? (i := 59) (by decide +kernel), List.mem_of_getElem? (i := 301) (by decide +kernel), List.mem_of_getElem? (i := 302) (by decide +kernel)⟩
theorem lw_p25 : lw_okq (⟨"BrinePans$Pans", "letOn", "(II)I"⟩, 6) := ⟨⟨by decide +kernel, by decide +kernel⟩, List.mem_of_getElem? (i := 59) (by decide +kernel), List.mem_of_getElem? (i := 305) (by decide +kernel), List.mem_of_getElem? (i := 306) (by decide +kernel)⟩
theorem lw_p26 : lw_okq (⟨"BrinePans$Ground", "hasGate", "(I)Z"⟩, 4) := ⟨⟨by decide +kernel, by decide +kernel⟩, List.mem_of_getElem? (i := 34) (by decide +kernel), List.mem_of_getElem? (i := 309) (by decide +kernel), List.mem_of_getElem? (i := 310) (by decide +kernel)⟩
theorem lw_p27 : lw_okq (⟨"BrinePans$Pans", "drain", "(II)I"⟩, 6) := ⟨⟨by decide +kernel, by decide +kernel⟩, List.mem_of_getElem? (i := 59) (by decide +kernel), List.mem_of_getElem? (i := 316) (by decide +kernel), List.mem_of_getElem? (i := 317) (by decide +kernel)⟩
theorem lw_p28 : lw_okq (⟨"BrinePans$Pans", "fill", "(III)V"⟩, 6) := ⟨⟨by decide +kernel, by decide +kernel⟩, List.mem_of_getElem? (i := 59) (by decide +kernel), List.mem_of_getElem? (i := 320) (by decide +kernel), List.mem_of_getElem? (i := 321) (by decide +kernel)⟩
theorem lw_p29 : lw_okq (⟨"BrinePans$Pans", "rain", "(I)V"⟩, 6) := ⟨⟨by decide +kernel, by decide +kernel⟩, List.mem_of_getElem? (i := 59) (by decide +kernel), List.mem_of_getElem? (i := 328) (by decide +kernel), List.mem_of_getElem? (i := 329) (by decide +kernel)⟩
theorem lw_p30 : lw_okq (⟨"BrinePans$Pans", "shine", "(I)V"⟩, 6) := ⟨⟨by decide +kernel, by decide +kernel⟩, List.mem_of_getElem? (i := 59) (by decide +kernel), List.mem_of_getElem? (i := 332) (by decide +kernel), List.mem_of_getElem? (i := 333) (by decide +kernel)⟩
theorem lw_p31 : lw_okq (⟨"BrinePans", "settle", "(I)I"⟩, 11) := ⟨⟨by decide +kernel, by decide +kernel⟩, List.mem_of_getElem? (i := 11) (by decide +kernel), List.mem_of_getElem? (i := 339) (by decide +kernel), List.mem_of_getElem? (i := 340) (by decide +kernel)⟩
def lw_privs_2 : List (MethodName × Nat) := [(⟨"BrinePans$Pans", "canRake", "(I)Z"⟩, 6), (⟨"BrinePans$Ground", "hasPan", "(I)Z"⟩, 4), (⟨"BrinePans$Pans", "roomOf", "(I)I"⟩, 6), (⟨"BrinePans$Ground", "depthOf", "(I)I"⟩, 4), (⟨"BrinePans", "fromNow", "()LBrinePans$Pans;"⟩, 11), (⟨"BrinePans$Pans", "copy", "(LBrinePans$Pans;)V"⟩, 6), (⟨"BrinePans$Pans", "passDay", "(Z)V"⟩, 6), (⟨"BrinePans$Ground", "gateCount", "()I"⟩, 4), (⟨"BrinePans$Pans", "isOpen", "(I)Z"⟩, 6), (⟨"BrinePans$Pans", "letOn", "(II)I"⟩, 6), (⟨"BrinePans$Ground", "hasGate", "(I)Z"⟩, 4), (⟨"BrinePans$Pans", "drain", "(II)I"⟩, 6), (⟨"BrinePans$Pans", "fill", "(III)V"⟩, 6), (⟨"BrinePans$Pans", "rain", "(I)V"⟩, 6), (⟨"BrinePans$Pans", "shine", "(I)V"⟩, 6), (⟨"BrinePans", "settle", "(I)I"⟩, 11)]
theorem lw_r2 : ∀ q ∈ lw_privs_2, lw_okq q := List.forall_mem_cons.mpr ⟨lw_p16, List.forall_mem_cons.mpr ⟨lw_p17, List.forall_mem_cons.mpr ⟨lw_p18, List.forall_mem_cons.mpr ⟨lw_p19, List.forall_mem_cons.mpr ⟨lw_p20, List.forall_mem_cons.mpr ⟨lw_p21, List.forall_mem_cons.mpr ⟨lw_p22, List.forall_mem_cons.mpr ⟨lw_p23, List.forall_mem_cons.mpr ⟨lw_p24, List.forall_mem_cons.mpr ⟨lw_p25, List.forall_mem_cons.mpr ⟨lw_p26, List.forall_mem_cons.mpr ⟨lw_p27, List.forall_mem_cons.mpr ⟨lw_p28, List.forall_mem_cons.mpr ⟨lw_p29, List.forall_mem_cons.mpr ⟨lw_p30, List.forall_mem_cons.mpr ⟨lw_p31, fun _ h => absurd h List.not_mem_nil⟩⟩⟩⟩⟩⟩⟩⟩⟩⟩⟩⟩⟩⟩⟩⟩
theorem lw_p32 : lw_okq (⟨"BrinePans$Acts", "add", "(LBrinePans$Pans;)V"⟩, 3) := ⟨⟨by decide +kernel, by decide +kernel⟩, List.mem_of_getElem? (i := 91) (by decide +kernel), List.mem_of_getElem? (i := 343) (by decide +kernel), List.mem_of_getElem? (i := 344) (by decide +kernel)⟩
theorem lw_p33 : lw_okq (⟨"BrinePans$Pans", "takeSea", "(I)I"⟩, 6) := ⟨⟨by decide +kernel, by decide +kernel⟩, List.mem_of_getElem? (i := 59) (by decide +kernel), List.mem_of_getElem? (i := 353) (by decide +kernel), List.mem_of_getElem? (i := 354) (by decide +kernel)⟩
theorem lw_p34 : lw_okq (⟨"BrinePans$Pans", "turnGate", "(I)I"⟩, 6) := ⟨⟨by decide +kernel, by decide +kernel⟩, List.mem_of_getElem? (i := 59) (by decide +kernel), List.mem_of_getElem? (i := 367) (by decide +kernel), List.mem_of_getElem? (i := 368) (by decide +kernel)⟩
theorem lw_p35 : lw_okq (⟨"BrinePans$Pans", "setGate", "(IZ)V"⟩, 6) := ⟨⟨by decide +kernel, by decide +kernel⟩, List.mem_of_getElem? (i := 59) (by decide +kernel), List.mem_of_getElem? (i := 371) (by decide +kernel), List.mem_of_getElem? (i := 372) (by decide +kernel)⟩
theorem lw_p36 : lw_okq (⟨"BrinePans$Pans", "rakeUp", "(I)I"⟩, 6) := ⟨⟨by decide +kernel, by decide +kernel⟩, List.mem_of_getElem? (i := 59) (by decide +kernel), List.mem_of_getElem? (i := 379) (by decide +kernel), List.mem_of_getElem? (i := 380) (by decide +kernel)⟩
theorem lw_p37 : lw_okq (⟨"BrinePans$Acts", "takeBack", "(LBrinePans$Pans;)I"⟩, 3) := ⟨⟨by decide +kernel, by decide +kernel⟩, List.mem_of_getElem? (i := 91) (by decide +kernel), List.mem_of_getElem? (i := 387) (by decide +kernel), List.mem_of_getElem? (i := 388) (by decide +kernel)⟩
theorem lw_p38 : lw_okq (⟨"BrinePans$Pans", "passDays", "(I)V"⟩, 6) := ⟨⟨by decide +kernel, by decide +kernel⟩, List.mem_of_getElem? (i := 59) (by decide +kernel), List.mem_of_getElem? (i := 396) (by decide +kernel), List.mem_of_getElem? (i := 397) (by decide +kernel)⟩
theorem lw_p39 : lw_okq (⟨"BrinePans$Pans", "crustBehind", "(I)I"⟩, 6) := ⟨⟨by decide +kernel, by decide +kernel⟩, List.mem_of_getElem? (i := 59) (by decide +kernel), List.mem_of_getElem? (i := 405) (by decide +kernel), List.mem_of_getElem? (i := 406) (by decide +kernel)⟩
theorem lw_p40 : lw_okq (⟨"BrinePans$Pans", "isDone", "(III)Z"⟩, 6) := ⟨⟨by decide +kernel, by decide +kernel⟩, List.mem_of_getElem? (i := 59) (by decide +kernel), List.mem_of_getElem? (i := 439) (by decide +kernel), List.mem_of_getElem? (i := 440) (by decide +kernel)⟩
theorem lw_p41 : lw_okq (⟨"BrinePans$Finds", "add", "(III)I"⟩, 4) := ⟨⟨by decide +kernel, by decide +kernel⟩, List.mem_of_getElem? (i := 111) (by decide +kernel), List.mem_of_getElem? (i := 466) (by decide +kernel), List.mem_of_getElem? (i := 467) (by decide +kernel)⟩
theorem lw_p42 : lw_okq (⟨"BrinePans$Finds", "clear", "()I"⟩, 4) := ⟨⟨by decide +kernel, by decide +kernel⟩, List.mem_of_getElem? (i := 111) (by decide +kernel), List.mem_of_getElem? (i := 474) (by decide +kernel), List.mem_of_getElem? (i := 475) (by decide +kernel)⟩
theorem lw_p43 : lw_okq (⟨"BrinePans$Finds", "allow", "(I)Z"⟩, 4) := ⟨⟨by decide +kernel, by decide +kernel⟩, List.mem_of_getElem? (i := 111) (by decide +kernel), List.mem_of_getElem? (i := 482) (by decide +kernel), List.mem_of_getElem? (i := 483) (by decide +kernel)⟩
theorem lw_p44 : lw_okq (⟨"BrinePans", "weigh", "(III)V"⟩, 11) := ⟨⟨by decide +kernel, by decide +kernel⟩, List.mem_of_getElem? (i := 11) (by decide +kernel), List.mem_of_getElem? (i := 492) (by decide +kernel), List.mem_of_getElem? (i := 493) (by decide +kernel)⟩
theorem lw_p45 : lw_okq (⟨"BrinePans", "isAtRest", "(I)Z"⟩, 11) := ⟨⟨by decide +kernel, by decide +kernel⟩, List.mem_of_getElem? (i := 11) (by decide +kernel), List.mem_of_getElem? (i := 497) (by decide +kernel), List.mem_of_getElem? (i := 498) (by decide +kernel)⟩
theorem lw_p46 : lw_okq (⟨"BrinePans$Pans", "befall", "(I)V"⟩, 6) := ⟨⟨by decide +kernel, by decide +kernel⟩, List.mem_of_getElem? (i := 59) (by decide +kernel), List.mem_of_getElem? (i := 516) (by decide +kernel), List.mem_of_getElem? (i := 517) (by decide +kernel)⟩
theorem lw_p47 : lw_okq (⟨"BrinePansModel", "readMarsh", "()I"⟩, 31) := ⟨⟨by decide +kernel, by decide +kernel⟩, List.mem_of_getElem? (i := 528) (by decide +kernel), List.mem_of_getElem? (i := 644) (by decide +kernel), List.mem_of_getElem? (i := 645) (by decide +kernel)⟩
def lw_privs_3 : List (MethodName × Nat) := [(⟨"BrinePans$Acts", "add", "(LBrinePans$Pans;)V"⟩, 3), (⟨"BrinePans$Pans", "takeSea", "(I)I"⟩, 6), (⟨"BrinePans$Pans", "turnGate", "(I)I"⟩, 6), (⟨"BrinePans$Pans", "setGate", "(IZ)V"⟩, 6), (⟨"BrinePans$Pans", "rakeUp", "(I)I"⟩, 6), (⟨"BrinePans$Acts", "takeBack", "(LBrinePans$Pans;)I"⟩, 3), (⟨"BrinePans$Pans", "passDays", "(I)V"⟩, 6), (⟨"BrinePans$Pans", "crustBehind", "(I)I"⟩, 6), (⟨"BrinePans$Pans", "isDone", "(III)Z"⟩, 6), (⟨"BrinePans$Finds", "add", "(III)I"⟩, 4), (⟨"BrinePans$Finds", "clear", "()I"⟩, 4), (⟨"BrinePans$Finds", "allow", "(I)Z"⟩, 4), (⟨"BrinePans", "weigh", "(III)V"⟩, 11), (⟨"BrinePans", "isAtRest", "(I)Z"⟩, 11), (⟨"BrinePans$Pans", "befall", "(I)V"⟩, 6), (⟨"BrinePansModel", "readMarsh", "()I"⟩, 31)]
theorem lw_r3 : ∀ q ∈ lw_privs_3, lw_okq q := List.forall_mem_cons.mpr ⟨lw_p32, List.forall_mem_cons.mpr ⟨lw_p33, List.forall_mem_cons.mpr ⟨lw_p34, List.forall_mem_cons.mpr ⟨lw_p35, List.forall_mem_cons.mpr ⟨lw_p36, List.forall_mem_cons.mpr ⟨lw_p37, List.forall_mem_cons.mpr ⟨lw_p38, List.forall_mem_cons.mpr ⟨lw_p39, List.forall_mem_cons.mpr ⟨lw_p40, List.forall_mem_cons.mpr ⟨lw_p41, List.forall_mem_cons.mpr ⟨lw_p42, List.forall_mem_cons.mpr ⟨lw_p43, List.forall_mem_cons.mpr ⟨lw_p44, List.forall_mem_cons.mpr ⟨lw_p45, List.forall_mem_cons.mpr ⟨lw_p46, List.forall_mem_cons.mpr ⟨lw_p47, fun _ h => absurd h List.not_mem_nil⟩⟩⟩⟩⟩⟩⟩⟩⟩⟩⟩⟩⟩⟩⟩⟩
theorem lw_p48 : lw_okq (⟨"BrinePansModel", "readThing", "()Z"⟩, 31) := ⟨⟨by decide +kernel, by decide +kernel⟩, List.mem_of_getElem? (i := 528) (by decide +kernel), List.mem_of_getElem? (i := 648) (by decide +kernel), List.mem_of_getElem? (i := 649) (by decide +kernel)⟩
theorem lw_p49 : lw_okq (⟨"BrinePansModel", "readOnePan", "()Z"⟩, 31) := ⟨⟨by decide +kernel, by decide +kernel⟩, List.mem_of_getElem? (i := 528) (by decide +kernel), List.mem_of_getElem? (i := 652) (by decide +kernel), List.mem_of_getElem? (i := 653) (by decide +kernel)⟩
theorem lw_p50 : lw_okq (⟨"BrinePansModel", "figure", "(II)I"⟩, 31) := ⟨⟨by decide +kernel, by decide +kernel⟩, List.mem_of_getElem? (i := 528) (by decide +kernel), List.mem_of_getElem? (i := 656) (by decide +kernel), List.mem_of_getElem? (i := 657) (by decide +kernel)⟩
theorem lw_p51 : lw_okq (⟨"BrinePansModel", "readOneSky", "(Z)Z"⟩, 31) := ⟨⟨by decide +kernel, by decide +kernel⟩, List.mem_of_getElem? (i := 528) (by decide +kernel), List.mem_of_getElem? (i := 660) (by decide +kernel), List.mem_of_getElem? (i := 661) (by decide +kernel)⟩
theorem lw_p52 : lw_okq (⟨"BrinePansModel", "skyOf", "([I)I"⟩, 31) := ⟨⟨by decide +kernel, by decide +kernel⟩, List.mem_of_getElem? (i := 528) (by decide +kernel), List.mem_of_getElem? (i := 672) (by decide +kernel), List.mem_of_getElem? (i := 673) (by decide +kernel)⟩
theorem lw_p53 : lw_okq (⟨"BrinePansModel", "sumFrom", "(I)I"⟩, 31) := ⟨⟨by decide +kernel, by decide +kernel⟩, List.mem_of_getElem? (i := 528) (by decide +kernel), List.mem_of_getElem? (i := 676) (by decide +kernel), List.mem_of_getElem? (i := 677) (by decide +kernel)⟩
theorem lw_p54 : lw_okq (⟨"BrinePansModel", "crustOfAll", "([I)I"⟩, 31) := ⟨⟨by decide +kernel, by decide +kernel⟩, List.mem_of_getElem? (i := 528) (by decide +kernel), List.mem_of_getElem? (i := 680) (by decide +kernel), List.mem_of_getElem? (i := 681) (by decide +kernel)⟩
theorem lw_p55 : lw_okq (⟨"BrinePansModel", "ripeOnes", "([I)I"⟩, 31) := ⟨⟨by decide +kernel, by decide +kernel⟩, List.mem_of_getElem? (i := 528) (by decide +kernel), List.mem_of_getElem? (i := 690) (by decide +kernel), List.mem_of_getElem? (i := 691) (by decide +kernel)⟩
theorem lw_p56 : lw_okq (⟨"BrinePansModel", "noPan", "(I)Z"⟩, 31) := ⟨⟨by decide +kernel, by decide +kernel⟩, List.mem_of_getElem? (i := 528) (by decide +kernel), List.mem_of_getElem? (i := 701) (by decide +kernel), List.mem_of_getElem? (i := 702) (by decide +kernel)⟩
theorem lw_p57 : lw_okq (⟨"BrinePansModel", "room", "([II)I"⟩, 31) := ⟨⟨by decide +kernel, by decide +kernel⟩, List.mem_of_getElem? (i := 528) (by decide +kernel), List.mem_of_getElem? (i := 705) (by decide +kernel), List.mem_of_getElem? (i := 706) (by decide +kernel)⟩
theorem lw_p58 : lw_okq (⟨"BrinePansModel", "note", "()V"⟩, 31) := ⟨⟨by decide +kernel, by decide +kernel⟩, List.mem_of_getElem? (i := 528) (by decide +kernel), List.mem_of_getElem? (i := 713) (by decide +kernel), List.mem_of_getElem? (i := 714) (by decide +kernel)⟩
theorem lw_p59 : lw_okq (⟨"BrinePansModel", "goDay", "([IZ)V"⟩, 31) := ⟨⟨by decide +kernel, by decide +kernel⟩, List.mem_of_getElem? (i := 528) (by decide +kernel), List.mem_of_getElem? (i := 717) (by decide +kernel), List.mem_of_getElem? (i := 718) (by decide +kernel)⟩
theorem lw_p60 : lw_okq (⟨"BrinePansModel", "weather", "([III)V"⟩, 31) := ⟨⟨by decide +kernel, by decide +kernel⟩, List.mem_of_getElem? (i := 528) (by decide +kernel), List.mem_of_getElem? (i := 733) (by decide +kernel), List.mem_of_getElem? (i := 734) (by decide +kernel)⟩
theorem lw_p61 : lw_okq (⟨"BrinePansModel", "noGate", "(I)Z"⟩, 31) := ⟨⟨by decide +kernel, by decide +kernel⟩, List.mem_of_getElem? (i := 528) (by decide +kernel), List.mem_of_getElem? (i := 749) (by decide +kernel), List.mem_of_getElem? (i := 750) (by decide +kernel)⟩
theorem lw_p62 : lw_okq (⟨"BrinePansModel", "begin", "()V"⟩, 31) := ⟨⟨by decide +kernel, by decide +kernel⟩, List.mem_of_getElem? (i := 528) (by decide +kernel), List.mem_of_getElem? (i := 774) (by decide +kernel), List.mem_of_getElem? (i := 775) (by decide +kernel)⟩
theorem lw_p63 : lw_okq (⟨"BrinePansModel", "goDays", "([II)V"⟩, 31) := ⟨⟨by decide +kernel, by decide +kernel⟩, List.mem_of_getElem? (i := 528) (by decide +kernel), List.mem_of_getElem? (i := 778) (by decide +kernel), List.mem_of_getElem? (i := 779) (by decide +kernel)⟩
def lw_privs_4 : List (MethodName × Nat) := [(⟨"BrinePansModel", "readThing", "()Z"⟩, 31), (⟨"BrinePansModel", "readOnePan", "()Z"⟩, 31), (⟨"BrinePansModel", "figure", "(II)I"⟩, 31), (⟨"BrinePansModel", "readOneSky", "(Z)Z"⟩, 31), (⟨"BrinePansModel", "skyOf", "([I)I"⟩, 31), (⟨"BrinePansModel", "sumFrom", "(I)I"⟩, 31), (⟨"BrinePansModel", "crustOfAll", "([I)I"⟩, 31), (⟨"BrinePansModel", "ripeOnes", "([I)I"⟩, 31), (⟨"BrinePansModel", "noPan", "(I)Z"⟩, 31), (⟨"BrinePansModel", "room", "([II)I"⟩, 31), (⟨"BrinePansModel", "note", "()V"⟩, 31), (⟨"BrinePansModel", "goDay", "([IZ)V"⟩, 31), (⟨"BrinePansModel", "weather", "([III)V"⟩, 31), (⟨"BrinePansModel", "noGate", "(I)Z"⟩, 31), (⟨"BrinePansModel", "begin", "()V"⟩, 31), (⟨"BrinePansModel", "goDays", "([II)V"⟩, 31)]
theorem lw_r4 : ∀ q ∈ lw_privs_4, lw_okq q := List.forall_mem_cons.mpr ⟨lw_p48, List.forall_mem_cons.mpr ⟨lw_p49, List.forall_mem_cons.mpr ⟨lw_p50, List.forall_mem_cons.mpr ⟨lw_p51, List.forall_mem_cons.mpr ⟨lw_p52, List.forall_mem_cons.mpr ⟨lw_p53, List.forall_mem_cons.mpr ⟨lw_p54, List.forall_mem_cons.mpr ⟨lw_p55, List.forall_mem_cons.mpr ⟨lw_p56, List.forall_mem_cons.mpr ⟨lw_p57, List.forall_mem_cons.mpr ⟨lw_p58, List.forall_mem_cons.mpr ⟨lw_p59, List.forall_mem_cons.mpr ⟨lw_p60, List.forall_mem_cons.mpr ⟨lw_p61, List.forall_mem_cons.mpr ⟨lw_p62, List.forall_mem_cons.mpr ⟨lw_p63, fun _ h => absurd h List.not_mem_nil⟩⟩⟩⟩⟩⟩⟩⟩⟩⟩⟩⟩⟩⟩⟩⟩
theorem lw_p64 : lw_okq (⟨"BrinePansModel", "findBest", "(I)V"⟩, 31) := ⟨⟨by decide +kernel, by decide +kernel⟩, List.mem_of_getElem? (i := 528) (by decide +kernel), List.mem_of_getElem? (i := 794) (by decide +kernel), List.mem_of_getElem? (i := 795) (by decide +kernel)⟩
theorem lw_p65 : lw_okq (⟨"BrinePansModel", "does", "(I)Z"⟩, 31) := ⟨⟨by decide +kernel, by decide +kernel⟩, List.mem_of_getElem? (i := 528) (by decide +kernel), List.mem_of_getElem? (i := 815) (by decide +kernel), List.mem_of_getElem? (i := 816) (by decide +kernel)⟩
theorem lw_p66 : lw_okq (⟨"BrinePansModel", "seas", "(I)Z"⟩, 31) := ⟨⟨by decide +kernel, by decide +kernel⟩, List.mem_of_getElem? (i := 528) (by decide +kernel), List.mem_of_getElem? (i := 819) (by decide +kernel), List.mem_of_getElem? (i := 820) (by decide +kernel)⟩
theorem lw_p67 : lw_okq (⟨"BrinePansModel", "lets", "(II)Z"⟩, 31) := ⟨⟨by decide +kernel, by decide +kernel⟩, List.mem_of_getElem? (i := 528) (by decide +kernel), List.mem_of_getElem? (i := 823) (by decide +kernel), List.mem_of_getElem? (i := 824) (by decide +kernel)⟩
theorem lw_p68 : lw_okq (⟨"BrinePansModel", "turns", "(I)Z"⟩, 31) := ⟨⟨by decide +kernel, by decide +kernel⟩, List.mem_of_getElem? (i := 528) (by decide +kernel), List.mem_of_getElem? (i := 827) (by decide +kernel), List.mem_of_getElem? (i := 828) (by decide +kernel)⟩
theorem lw_p69 : lw_okq (⟨"BrinePansModel", "rakes", "(I)Z"⟩, 31) := ⟨⟨by decide +kernel, by decide +kernel⟩, List.mem_of_getElem? (i := 528) (by decide +kernel), List.mem_of_getElem? (i := 831) (by decide +kernel), List.mem_of_getElem? (i := 832) (by decide +kernel)⟩
theorem lw_p70 : lw_okq (⟨"BrinePansModel", "lay", "(II)V"⟩, 31) := ⟨⟨by decide +kernel, by decide +kernel⟩, List.mem_of_getElem? (i := 528) (by decide +kernel), List.mem_of_getElem? (i := 865) (by decide +kernel), List.mem_of_getElem? (i := 866) (by decide +kernel)⟩
def lw_privs_5 : List (MethodName × Nat) := [(⟨"BrinePansModel", "findBest", "(I)V"⟩, 31), (⟨"BrinePansModel", "does", "(I)Z"⟩, 31), (⟨"BrinePansModel", "seas", "(I)Z"⟩, 31), (⟨"BrinePansModel", "lets", "(II)Z"⟩, 31), (⟨"BrinePansModel", "turns", "(I)Z"⟩, 31), (⟨"BrinePansModel", "rakes", "(I)Z"⟩, 31), (⟨"BrinePansModel", "lay", "(II)V"⟩, 31)]
theorem lw_r5 : ∀ q ∈ lw_privs_5, lw_okq q := List.forall_mem_cons.mpr ⟨lw_p64, List.forall_mem_cons.mpr ⟨lw_p65, List.forall_mem_cons.mpr ⟨lw_p66, List.forall_mem_cons.mpr ⟨lw_p67, List.forall_mem_cons.mpr ⟨lw_p68, List.forall_mem_cons.mpr ⟨lw_p69, List.forall_mem_cons.mpr ⟨lw_p70, fun _ h => absurd h List.not_mem_nil⟩⟩⟩⟩⟩⟩⟩
def lw_privs : List (MethodName × Nat) := lw_privs_1 ++ (lw_privs_2 ++ (lw_privs_3 ++ (lw_privs_4 ++ (lw_privs_5))))
def lw_tbl : List Cond := k2_sels lw_privs ++ tables_1
theorem lw_privs_ok : ∀ q ∈ lw_privs, lw_okq q := by
  show ∀ q ∈ lw_privs_1 ++ (lw_privs_2 ++ (lw_privs_3 ++ (lw_privs_4 ++ (lw_privs_5)))), lw_okq q
  exact List.forall_mem_append.mpr ⟨lw_r1, List.forall_mem_append.mpr ⟨lw_r2, List.forall_mem_append.mpr ⟨lw_r3, List.forall_mem_append.mpr ⟨lw_r4, lw_r5⟩⟩⟩⟩
end
section
/-! own frame: an abstract heap of whole numbers with fixed shapes, and a judgement over it -/
abbrev HI : Type := Nat → Nat → Int32
abbrev HL : Type := Nat → Int64
abbrev Out : Type := Option Value × HI × HL
def up (X : HI) (a k : Nat) (v : Int32) : HI := fun b => if b = a then upd (X a) k v else X b
def upY (Y : HL) (a : Nat) (v : Int64) : HL := fun b => if b = a then v else Y b
-- classes
abbrev cAct : String := "BrinePans$Acts"
abbrev cFin : String := "BrinePans$Finds"
abbrev cGro : String := "BrinePans$Ground"
abbrev cPan : String := "BrinePans$Pans"
abbrev cTxt : String := "BrinePans$Text"
abbrev cBri : String := "BrinePans"
abbrev cMod : String := "BrinePansModel"
def tAct : u_T := fun k => match k with
  | 0 => ("BrinePans$Acts", "before", "[LBrinePans$Pans;", true)
  | 1 => ("BrinePans$Acts", "next", "I", false)
  | _ => ("BrinePans$Acts", "count", "I", false)
def tFin : u_T := fun k => match k with
  | 0 => ("BrinePans$Finds", "water", "[I", true)
  | 1 => ("BrinePans$Finds", "crusts", "[I", true)
  | 2 => ("BrinePans$Finds", "isMore", "[Z", true)
  | _ => ("BrinePans$Finds", "count", "I", false)
def tGro : u_T := fun k => match k with
  | 0 => ("BrinePans$Ground", "kinds", "[I", true)
  | 1 => ("BrinePans$Ground", "sky", "[I", true)
  | 2 => ("BrinePans$Ground", "pans", "I", false)
  | _ => ("BrinePans$Ground", "skies", "I", false)
def tPan : u_T := fun k => match k with
  | 0 => ("BrinePans$Pans", "ground", "LBrinePans$Ground;", true)
  | 1 => ("BrinePans$Pans", "water", "[I", true)
  | 2 => ("BrinePans$Pans", "salt", "[I", true)
  | 3 => ("BrinePans$Pans", "open", "I", false)
  | 4 => ("BrinePans$Pans", "heap", "I", false)
  | _ => ("BrinePans$Pans", "day", "I", false)
def tTxt : u_T := fun k => match k with
  | 0 => ("BrinePans$Text", "letters", "[I", true)
  | _ => ("BrinePans$Text", "length", "I", false)
def tBri : u_T := fun k => match k with
  | 0 => ("BrinePans", "text", "LBrinePans$Text;", true)
  | 1 => ("BrinePans", "ground", "LBrinePans$Ground;", true)
  | 2 => ("BrinePans", "now", "LBrinePans$Pans;", true)
  | 3 => ("BrinePans", "trial", "LBrinePans$Pans;", true)
  | 4 => ("BrinePans", "acts", "LBrinePans$Acts;", true)
  | 5 => ("BrinePans", "finds", "LBrinePans$Finds;", true)
  | 6 => ("BrinePans", "slots", "[LBrinePans$Pans;", true)
  | 7 => ("BrinePans", "isKept", "[Z", true)
  | 8 => ("BrinePans", "crustOfSets", "[I", true)
  | 9 => ("BrinePans", "gains", "[I", true)
  | _ => ("BrinePans", "chance", "J", false)
def tMod : u_T := fun k => match k with
  | 0 => ("BrinePansModel", "thrown", "I", false)
  | 1 => ("BrinePansModel", "text", "[I", true)
  | 2 => ("BrinePansModel", "textSize", "I", false)
  | 3 => ("BrinePansModel", "place", "I", false)
  | 4 => ("BrinePansModel", "pans", "I", false)
  | 5 => ("BrinePansModel", "kind", "[I", true)
  | 6 => ("BrinePansModel", "skies", "I", false)
  | 7 => ("BrinePansModel", "sky", "[I", true)
  | 8 => ("BrinePansModel", "readPans", "I", false)
  | 9 => ("BrinePansModel", "readPan", "[I", true)
  | 10 => ("BrinePansModel", "readSkies", "I", false)
  | 11 => ("BrinePansModel", "readSky", "[I", true)
  | 12 => ("BrinePansModel", "page", "[I", true)
  | 13 => ("BrinePansModel", "trial", "[I", true)
  | 14 => ("BrinePansModel", "book", "[I", true)
  | 15 => ("BrinePansModel", "acts", "I", false)
  | 16 => ("BrinePansModel", "kept", "[I", true)
  | 17 => ("BrinePansModel", "isKept", "[Z", true)
  | 18 => ("BrinePansModel", "found", "I", false)
  | 19 => ("BrinePansModel", "foundWater", "[I", true)
  | 20 => ("BrinePansModel", "foundCrust", "[I", true)
  | 21 => ("BrinePansModel", "foundIs", "[I", true)
  | 22 => ("BrinePansModel", "seed", "J", false)
  | 23 => ("BrinePansModel", "bestMuch", "I", false)
  | 24 => ("BrinePansModel", "bestWay", "I", false)
  | 25 => ("BrinePansModel", "saltMany", "I", false)
  | 26 => ("BrinePansModel", "saltFirst", "I", false)
  | 27 => ("BrinePansModel", "restMany", "I", false)
  | 28 => ("BrinePansModel", "restFirst", "I", false)
  | 29 => ("BrinePansModel", "gains", "[I", true)
  | _ => ("BrinePansModel", "value", "[I", true)
def yAct : Nat → FieldType := fun k => match k with
  | 0 => .array (.object "BrinePans$Pans")
  | 1 => .int
  | _ => .int
def yFin : Nat → FieldType := fun k => match k with
  | 0 => .array .int
  | 1 => .array .int
  | 2 => .array .boolean
  | _ => .int
def yGro : Nat → FieldType := fun k => match k with
  | 0 => .array .int
  | 1 => .array .int
  | 2 => .int
  | _ => .int
def yPan : Nat → FieldType := fun k => match k with
  | 0 => .object "BrinePans$Ground"
  | 1 => .array .int
  | 2 => .array .int
  | 3 => .int
  | 4 => .int
  | _ => .int
def yTxt : Nat → FieldType := fun k => match k with
  | 0 => .array .int
  | _ => .int
def yBri : Nat → FieldType := fun k => match k with
  | 0 => .object "BrinePans$Text"
  | 1 => .object "BrinePans$Ground"
  | 2 => .object "BrinePans$Pans"
  | 3 => .object "BrinePans$Pans"
  | 4 => .object "BrinePans$Acts"
  | 5 => .object "BrinePans$Finds"
  | 6 => .array (.object "BrinePans$Pans")
  | 7 => .array .boolean
  | 8 => .array .int
  | 9 => .array .int
  | _ => .long
def yMod : Nat → FieldType := fun k => match k with
  | 0 => .int
  | 1 => .array .int
  | 2 => .int
  | 3 => .int
  | 4 => .int
  | 5 => .array .int
  | 6 => .int
  | 7 => .array .int
  | 8 => .int
  | 9 => .array .int
  | 10 => .int
  | 11 => .array .int
  | 12 => .array .int
  | 13 => .array .int
  | 14 => .array .int
  | 15 => .int
  | 16 => .array .int
  | 17 => .array .boolean
  | 18 => .int
  | 19 => .array .int
  | 20 => .array .int
  | 21 => .array .int
  | 22 => .long
  | 23 => .int
  | 24 => .int
  | 25 => .int
  | 26 => .int
  | 27 => .int
  | 28 => .int
  | 29 => .array .int
  | _ => .array .int
abbrev classes : List vw_C := [(cAct, tAct, 3), (cFin, tFin, 4), (cGro, tGro, 4), (cPan, tPan, 6), (cTxt, tTxt, 2), (cBri, tBri, 11), (cMod, tMod, 31)]
end
section
/-! the fixed world: cells by number, their shapes, where they lie -/
def kd (a : Nat) : Nat × Nat :=
  if a = 0 then (0, 5) else if a = 1 then (0, 4) else if a = 2 then (1, 36) else if a = 3 then (0, 2) else if a = 4 then (1, 6) else if a = 5 then (1, 5)
  else if a = 6 then (0, 0) else if a = 7 then (3, 14) else if a = 8 then (0, 1) else if a = 9 then (1, 6) else if a = 10 then (1, 6) else if a = 11 then (2, 6)
  else if a = 12 then (3, 2) else if a = 13 then (2, 2) else if a = 14 then (1, 64) else if a = 15 then (1, 8)
  else if a < 70 then (if (a - 16) % 3 = 0 then (0, 3) else (1, 6))
  else if a = 70 then (0, 6) else if a = 71 then (1, 36) else if a = 72 then (1, 6) else if a = 73 then (1, 5) else if a = 74 then (1, 18) else if a = 75 then (1, 5) else if a = 76 then (1, 15) else if a = 77 then (1, 15) else if a = 78 then (1, 210) else if a = 79 then (1, 30) else if a = 80 then (2, 2) else if a = 81 then (1, 6) else if a = 82 then (1, 6) else if a = 83 then (1, 6) else if a = 84 then (1, 8) else (1, 64)
def rA (a i : Nat) : Nat := if a = 7 then 28 + 3 * i else 22 + 3 * i
def fB (x : Nat → Int32) (y : Int64) (a : Nat) : List Value :=
  if a = 0 then [.ref 1, .ref 3, .ref 16, .ref 19, .ref 6, .ref 8, .ref 12, .ref 13, .ref 14, .ref 15, .long y]
  else if a = 1 then [.ref 2, .int (x 1)]
  else if a = 3 then [.ref 4, .ref 5, .int (x 2), .int (x 3)]
  else if a = 6 then [.ref 7, .int (x 1), .int (x 2)]
  else if a = 8 then [.ref 9, .ref 10, .ref 11, .int (x 3)]
  else if a = 70 then [.int (x 0), .ref 71, .int (x 2), .int (x 3), .int (x 4), .ref 72, .int (x 6), .ref 73, .int (x 8), .ref 74, .int (x 10), .ref 75, .ref 76, .ref 77, .ref 78, .int (x 15), .ref 79, .ref 80, .int (x 18), .ref 81, .ref 82, .ref 83, .long y, .int (x 23), .int (x 24), .int (x 25), .int (x 26), .int (x 27), .int (x 28), .ref 84, .ref 85]
  else [.ref 3, .ref (a + 1), .ref (a + 2), .int (x 3), .int (x 4), .int (x 5)]
/-- where all lies: field places, addresses, what may change, the three array classes, the static arrays and the script -/
abbrev KK : Type := va_G × ((Nat → Nat) × ((Nat → Prop) × ((ClassId × (ClassId × ClassId)) × (Nat → Nat))))
def kD (K : KK) : va_G := K.1
def kad (K : KK) : Nat → Nat := K.2.1
def kA (K : KK) : Nat → Prop := K.2.2.1
def kI (K : KK) : ClassId := K.2.2.2.1.1
def kZ (K : KK) : ClassId := K.2.2.2.1.2.1
def kP (K : KK) : ClassId := K.2.2.2.1.2.2
def kts (K : KK) : Nat → Nat := K.2.2.2.2
def kT (K : KK) : List (ClassId × FieldType) := [(kI K, .int), (kZ K, .boolean), (kP K, .object "BrinePans$Pans")]
def trV (K : KK) (v : Value) : Value := match v with
  | .ref a => .ref (kad K a)
  | .float x => .ref (kts K x.toNat)
  | v => v
theorem trV_cat (K : KK) (v : Value) : (trV K v).category = v.category := by cases v <;> rfl
def cB (K : KK) (x : Nat → Int32) (y : Int64) (a : Nat) : va_E := match (kd a).1 with
  | 0 => .inr ((kd a).2, (fB x y a).map (trV K))
  | 1 => .inl (kI K, (kd a).2, .inl x)
  | 2 => .inl (kZ K, (kd a).2, .inl x)
  | _ => .inl (kP K, (kd a).2, .inr (.inr (.inr (.inr (fun i => some (kad K (rA a i)))))))
theorem cB_o {K : KK} {x : Nat → Int32} {y : Int64} {a ci : Nat} (h : kd a = (0, ci)) : cB K x y a = .inr (ci, (fB x y a).map (trV K)) := by simp only [cB, h]
theorem cB_i {K : KK} {x : Nat → Int32} {y : Int64} {a n : Nat} (h : kd a = (1, n)) : cB K x y a = .inl (kI K, n, .inl x) := by simp only [cB, h]
theorem cB_z {K : KK} {x : Nat → Int32} {y : Int64} {a n : Nat} (h : kd a = (2, n)) : cB K x y a = .inl (kZ K, n, .inl x) := by simp only [cB, h]
theorem cB_r {K : KK} {x : Nat → Int32} {y : Int64} {a n : Nat} (h : kd a = (3, n)) : cB K x y a = .inl (kP K, n, .inr (.inr (.inr (.inr (fun i => some (kad K (rA a i))))))) := by simp only [cB, h]
def wsOf (K : KK) (X : HI) (Y : HL) : va_W := (List.range 86).map (fun a => (kad K a, cB K (X a) (Y a) a))
theorem ws_at {K : KK} {X : HI} {Y : HL} {a : Nat} (h : a < 86) : (wsOf K X Y)[a]? = some (kad K a, cB K (X a) (Y a) a) := by simp [wsOf, h]
theorem ws_of {K : KK} {X : HI} {Y : HL} {a : Nat} {q : Nat × va_E} (h : (wsOf K X Y)[a]? = some q) : a < 86 ∧ q = (kad K a, cB K (X a) (Y a) a) := by
  have hl : a < 86 := by
    have := (List.getElem?_eq_some_iff.mp h).1
    simpa [wsOf] using this
  rw [ws_at hl] at h
  exact ⟨hl, (Option.some.inj h).symm⟩
theorem ws_set {K : KK} {X X' : HI} {Y Y' : HL} {a : Nat} (h : a < 86) (hX : ∀ b, b ≠ a → X' b = X b) (hY : ∀ b, b ≠ a → Y' b = Y b) : (wsOf K X Y).set a (kad K a, cB K (X' a) (Y' a) a) = wsOf K X' Y' := by
  apply List.ext_getElem?
  intro i
  by_cases hi : i = a
  · subst hi
    rw [List.getElem?_set_self (by simp [wsOf, h]), ws_at h]
  · rw [List.getElem?_set_ne (Ne.symm hi)]
    by_cases h8 : i < 86
    · rw [ws_at h8, ws_at h8, hX i hi, hY i hi]
    · rw [List.getElem?_eq_none (by simp [wsOf]; omega), List.getElem?_eq_none (by simp [wsOf]; omega)]
theorem up_self (X : HI) (a k : Nat) (v : Int32) : up X a k v a = upd (X a) k v := if_pos rfl
theorem up_ne (X : HI) {a b : Nat} (k : Nat) (v : Int32) (h : b ≠ a) : up X a k v b = X b := if_neg h
theorem upY_self (Y : HL) (a : Nat) (v : Int64) : upY Y a v a = v := if_pos rfl
theorem upY_ne (Y : HL) {a b : Nat} (v : Int64) (h : b ≠ a) : upY Y a v b = Y b := if_neg h
theorem ws_up {K : KK} {X : HI} {Y : HL} {a k : Nat} {v : Int32} (h : a < 86) : (wsOf K X Y).set a (kad K a, cB K (upd (X a) k v) (Y a) a) = wsOf K (up X a k v) Y := by
  have e := ws_set (K := K) (X := X) (X' := up X a k v) (Y := Y) (Y' := Y) h (fun b hb => up_ne X k v hb) (fun b _ => rfl)
  rw [up_self] at e
  exact e
theorem ws_upY {K : KK} {X : HI} {Y : HL} {a : Nat} {v : Int64} (h : a < 86) : (wsOf K X Y).set a (kad K a, cB K (X a) v a) = wsOf K X (upY Y a v) := by
  have e := ws_set (K := K) (X := X) (X' := X) (Y := Y) (Y' := upY Y a v) h (fun b _ => rfl) (fun b hb => upY_ne Y v hb)
  rw [upY_self] at e
  exact e
def kOK (K : KK) : Prop := (∀ a b, a < 86 → b < 86 → kad K a = kad K b → a = b) ∧ ∀ a, a < 86 → kA K (kad K a)
theorem ws_D {K : KK} (h : kOK K) (X : HI) (Y : HL) : va_D (kA K) (wsOf K X Y) := by
  refine ⟨fun i j p q hi hj hpq => ?_, fun k q hk => ?_⟩
  · obtain ⟨a1, rfl⟩ := ws_of hi
    obtain ⟨b1, rfl⟩ := ws_of hj
    exact h.1 i j a1 b1 hpq
  · obtain ⟨a1, rfl⟩ := ws_of hk
    exact h.2 k a1
-- the words
def gw : List Cond := lw_tbl.filter goodWord
def isNest : Cond → Bool
  | .fieldLinkNest .. => true
  | .methodLinkNest .. => true
  | _ => false
def nw : List Cond := tables_1.filter isNest
theorem gw_all : ∀ w ∈ gw, (w.onTables && w.keeps) = true ∨ ∃ ty, w = .arrayClass ty := fun w h => good_of_word (List.mem_filter.mp h).2
theorem gw_t {w : Cond} (i : Nat) (h : tables_1[i]? = some w) (hg : goodWord w = true) : w ∈ gw := List.mem_filter.mpr ⟨List.mem_append_right _ (List.mem_of_getElem? h), hg⟩
theorem gw_s {w : Cond} (i : Nat) (h : (k2_sels lw_privs)[i]? = some w) (hg : goodWord w = true) : w ∈ gw := List.mem_filter.mpr ⟨List.mem_append_left _ (List.mem_of_getElem? h), hg⟩
theorem nw_t {w : Cond} (i : Nat) (h : tables_1[i]? = some w) (hg : isNest w = true) : w ∈ nw := List.mem_filter.mpr ⟨List.mem_of_getElem? h, hg⟩
def kN (U : State) : Prop := ∀ w ∈ nw, va_Nw w U
theorem kN.warm {s U : State} (hW : s.WarmedH U.vm) (h : kN s) : kN U := by
  intro w hw
  have h1 := h w hw
  have h2 := (List.mem_filter.mp hw).2
  cases w <;> first | exact va_Nw.warmF hW h1 | exact va_Nw.warmM hW h1 | (exfalso; simp [isNest] at h2)
theorem kN.same {u U : State} (hv : u.vm = U.vm) (h : kN u) : kN U := by
  intro w hw
  have h1 := h w hw
  have h2 := (List.mem_filter.mp hw).2
  cases w <;> first | exact va_Nw.same rfl hv h1 | (exfalso; simp [isNest] at h2)
def fac (j : Nat) : Int32 := match j with
  | 0 => 1
  | 1 => 1
  | 2 => 2
  | 3 => 6
  | 4 => 24
  | 5 => 120
  | _ => 720
def tho (j : Nat) : Int64 := match j with
  | 0 => 1
  | 1 => 1000
  | 2 => 1000000
  | _ => 1000000000
def kSt (K : KK) (U : State) : Prop := va_Z "BrinePans" "FACTORIALS" "[I" (.ref (kts K 1)) (kA K) U U.heap ∧ va_T .int (kts K 1) 7 (fun j => .int (fac j)) (kA K) U U.heap ∧ va_Z "BrinePans" "THOUSANDS" "[J" (.ref (kts K 2)) (kA K) U U.heap ∧ va_T .long (kts K 2) 4 (fun j => .long (tho j)) (kA K) U U.heap
theorem kSt.moved {K : KK} {s U : State} (hvm : s.vm.Alike U.vm) (hk : ∀ q : Nat, q < s.heap.size → ¬ kA K q → U.heap[q]? = s.heap[q]?) (h : kSt K s) : kSt K U :=
  ⟨(h.1.moved hvm).kept hk, (h.2.1.moved hvm).kept hk, (h.2.2.1.moved hvm).kept hk, (h.2.2.2.moved hvm).kept hk⟩
/-- the context of a running method -/
def Cx (K : KK) (own : String) (cc : ByteArray) (nL : Nat) (ret : Option FieldType) (p : Program) (s : State) (m : MethodId) (args : Array Value) (meth : Method) (c : Code) : Prop :=
  p.tables.exec = Jvm.exec ∧ c.code = cc ∧ meth.sig.returnType = ret ∧ c.maxLocals = nL ∧ s.vm.findClass own = some m.cls ∧ (∀ w ∈ gw, w.before args s = true) ∧ meth.locks = false ∧ va_K (kD K) classes (kT K) s ∧ kOK K ∧ kN s ∧ kSt K s
section CXS
variable {K : KK} {own : String} {cc : ByteArray} {nL : Nat} {ret : Option FieldType} {p : Program} {s : State} {m : MethodId} {args : Array Value} {meth : Method} {c : Code}
theorem Cx.ex (h : Cx K own cc nL ret p s m args meth c) : p.tables.exec = Jvm.exec := h.1
theorem Cx.co (h : Cx K own cc nL ret p s m args meth c) : c.code = cc := h.2.1
theorem Cx.re (h : Cx K own cc nL ret p s m args meth c) : meth.sig.returnType = ret := h.2.2.1
theorem Cx.ml (h : Cx K own cc nL ret p s m args meth c) : c.maxLocals = nL := h.2.2.2.1
theorem Cx.ow (h : Cx K own cc nL ret p s m args meth c) : s.vm.findClass own = some m.cls := h.2.2.2.2.1
theorem Cx.ts (h : Cx K own cc nL ret p s m args meth c) : ∀ w ∈ gw, w.before args s = true := h.2.2.2.2.2.1
theorem Cx.lk (h : Cx K own cc nL ret p s m args meth c) : meth.locks = false := h.2.2.2.2.2.2.1
theorem Cx.ka (h : Cx K own cc nL ret p s m args meth c) : va_K (kD K) classes (kT K) s := h.2.2.2.2.2.2.2.1
theorem Cx.ok (h : Cx K own cc nL ret p s m args meth c) : kOK K := h.2.2.2.2.2.2.2.2.1
theorem Cx.ne (h : Cx K own cc nL ret p s m args meth c) : kN s := h.2.2.2.2.2.2.2.2.2.1
theorem Cx.st (h : Cx K own cc nL ret p s m args meth c) : kSt K s := h.2.2.2.2.2.2.2.2.2.2
end CXS
-- locals
def Lp (K : KK) : Nat → List (Option Value) → List (Nat × Value)
  | _, [] => []
  | i, none :: t => Lp K (i + 1) t
  | i, some v :: t => (i, trV K v) :: Lp K (i + 1) t
theorem Lp_iff {K : KK} : ∀ (L : List (Option Value)) (i : Nat) (q : Nat × Value), q ∈ Lp K i L ↔ ∃ k v, L[k]? = some (some v) ∧ q = (i + k, trV K v)
  | [], i, q => by simp [Lp]
  | none :: t, i, q => by
    rw [Lp, Lp_iff t (i + 1) q]
    constructor
    · rintro ⟨k, v, h1, h2⟩
      exact ⟨k + 1, v, by simpa using h1, by rw [h2]; congr 1; omega⟩
    · rintro ⟨k, v, h1, h2⟩
      cases k with
      | zero => simp at h1
      | succ k => exact ⟨k, v, by simpa using h1, by rw [h2]; congr 1; omega⟩
  | some w :: t, i, q => by
    rw [Lp, List.mem_cons, Lp_iff t (i + 1) q]
    constructor
    · rintro (h | ⟨k, v, h1, h2⟩)
      · exact ⟨0, w, rfl, by rw [h]; rfl⟩
      · exact ⟨k + 1, v, by simpa using h1, by rw [h2]; congr 1; omega⟩
    · rintro ⟨k, v, h1, h2⟩
      cases k with
      | zero => left; simp at h1; rw [h2, h1]; rfl
      | succ k => right; exact ⟨k, v, by simpa using h1, by rw [h2]; congr 1; omega⟩
def lvs (K : KK) (ls : Array Slot) (nL : Nat) (L : List (Option Value)) : Prop := lv_has ls nL (Lp K 0 L)
theorem lvs.at {K : KK} {ls : Array Slot} {nL : Nat} {L : List (Option Value)} (h : lvs K ls nL L) {i : Nat} {v : Value} (hv : L[i]? = some (some v)) : ls[i]? = some (.val (trV K v)) :=
  h.2.2 (i, trV K v) ((Lp_iff L 0 _).mpr ⟨i, v, hv, by rw [Nat.zero_add]⟩)
theorem lv_mono {ls : Array Slot} {nL : Nat} {l l' : List (Nat × Value)} (h : lv_has ls nL l) (hs : ∀ q ∈ l', q ∈ l) : lv_has ls nL l' := ⟨h.1, h.2.1, fun q hq => h.2.2 q (hs q hq)⟩
def subL : List (Option Value) → List (Option Value) → Prop
  | [], _ => True
  | none :: t', _ :: t => subL t' t
  | some v :: t', w :: t => w = some v ∧ subL t' t
  | _ :: _, [] => False
theorem subL_at : ∀ (L' L : List (Option Value)), subL L' L → ∀ (k : Nat) (v : Value), L'[k]? = some (some v) → L[k]? = some (some v)
  | [], _, _, k, v, h => by simp at h
  | none :: t', _ :: t, hs, k, v, h => by
    cases k with
    | zero => simp at h
    | succ k => simpa using subL_at t' t hs k v (by simpa using h)
  | some w :: t', u :: t, hs, k, v, h => by
    cases k with
    | zero => simp at h; subst h; simpa using hs.1
    | succ k => simpa using subL_at t' t hs.2 k v (by simpa using h)
  | none :: _, [], hs, _, _, _ => absurd hs (by simp [subL])
  | some _ :: _, [], hs, _, _, _ => absurd hs (by simp [subL])
theorem lvs.sub {K : KK} {ls : Array Slot} {nL : Nat} {L L' : List (Option Value)} (h : lvs K ls nL L) (hs : subL L' L) : lvs K ls nL L' :=
  lv_mono h (fun q hq => by
    obtain ⟨k, v, h1, h2⟩ := (Lp_iff L' 0 q).mp hq
    exact (Lp_iff L 0 q).mpr ⟨k, v, subL_at L' L hs k v h1, h2⟩)
def okS (L : List (Option Value)) (i : Nat) : Bool := match i with
  | 0 => true
  | j + 1 => match L[j]? with
    | some (some w) => w.category == 1
    | _ => true
theorem okS_of {L : List (Option Value)} {i k : Nat} {v : Value} (h : okS L i = true) (hk : L[k]? = some (some v)) (hi : k + 1 = i) : v.category = 1 := by
  subst hi
  simp only [okS, hk] at h
  simpa using h
theorem st1 {K : KK} {L : List (Option Value)} {i : Nat} {v : Value} (hok : okS L i = true) : ∀ q ∈ Lp K 0 (L.set i (some v)), q ∈ (i, trV K v) :: (Lp K 0 L).filter (fun q => !(q.1 == i) && !(q.1 + 1 == i && q.2.category == 2)) := by
  intro q hq
  obtain ⟨k, w, h1, h2⟩ := (Lp_iff _ 0 q).mp hq
  rw [Nat.zero_add] at h2
  by_cases hk : k = i
  · subst hk
    rw [List.getElem?_set_self (by have := (List.getElem?_eq_some_iff.mp h1).1; simpa using this)] at h1
    cases h1
    rw [h2]; exact List.mem_cons_self
  · rw [List.getElem?_set_ne (Ne.symm hk)] at h1
    refine List.mem_cons_of_mem _ (List.mem_filter.mpr ⟨(Lp_iff L 0 q).mpr ⟨k, w, h1, by rw [Nat.zero_add]; exact h2⟩, ?_⟩)
    rw [h2]
    simp only [Bool.and_eq_true, Bool.not_eq_true', beq_eq_false_iff_ne, ne_eq, Bool.and_eq_false_iff]
    refine ⟨hk, ?_⟩
    by_cases h5 : k + 1 = i
    · right; rw [trV_cat, okS_of hok h1 h5]; decide
    · left; exact h5
theorem st2 {K : KK} {L : List (Option Value)} {i : Nat} {v : Value} (hok : okS L i = true) : ∀ q ∈ Lp K 0 ((L.set i (some v)).set (i + 1) none), q ∈ (i, trV K v) :: (Lp K 0 L).filter (fun q => !(q.1 == i) && (!(q.1 == i + 1) && !(q.1 + 1 == i && q.2.category == 2))) := by
  intro q hq
  obtain ⟨k, w, h1, h2⟩ := (Lp_iff _ 0 q).mp hq
  rw [Nat.zero_add] at h2
  by_cases hk1 : k = i + 1
  · subst hk1
    rw [List.getElem?_set_self (by have := (List.getElem?_eq_some_iff.mp h1).1; simpa using this)] at h1
    cases h1
  · rw [List.getElem?_set_ne (Ne.symm hk1)] at h1
    by_cases hk : k = i
    · subst hk
      rw [List.getElem?_set_self (by have := (List.getElem?_eq_some_iff.mp h1).1; simpa using this)] at h1
      cases h1
      rw [h2]; exact List.mem_cons_self
    · rw [List.getElem?_set_ne (Ne.symm hk)] at h1
      refine List.mem_cons_of_mem _ (List.mem_filter.mpr ⟨(Lp_iff L 0 q).mpr ⟨k, w, h1, by rw [Nat.zero_add]; exact h2⟩, ?_⟩)
      rw [h2]
      simp only [Bool.and_eq_true, Bool.not_eq_true', beq_eq_false_iff_ne, ne_eq, Bool.and_eq_false_iff]
      refine ⟨hk, hk1, ?_⟩
      by_cases h5 : k + 1 = i
      · right; rw [trV_cat, okS_of hok h1 h5]; decide
      · left; exact h5
end
