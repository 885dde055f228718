section
-- ===== PART A: goes FIRST, ahead of the names: the tables' words, and 'selects' of the private methods out of them =====
/-- a private method of a class that the tables say can be made, by its rows of tables_1 -/
def lw_okq (q : MethodName × Nat) : Prop := (q.1.cls ≠ "java/lang/invoke/MethodHandle" ∧ q.1.cls ≠ "java/lang/invoke/VarHandle") ∧ Cond.instantiable q.1.cls q.2 ∈ tables_1 ∧ Cond.privateMethod q.1 ∈ tables_1 ∧ Cond.instanceMethod q.1 ∈ tables_1
theorem lw_p0 : lw_okq (⟨"BrinePans$Text", "append", "(I)I"⟩, 2) := ⟨⟨by decide +kernel, by decide +kernel⟩, List.mem_of_getElem? (i := 19) (by decide +kernel), List.mem_of_getElem? (i := 170) (by decide +kernel), List.mem_of_getElem? (i := 171) (by decide +kernel)⟩
theorem lw_p1 : lw_okq (⟨"BrinePans$Text", "clear", "()I"⟩, 2) := ⟨⟨by decide +kernel, by decide +kernel⟩, List.mem_of_getElem? (i := 19) (by decide +kernel), List.mem_of_getElem? (i := 178) (by decide +kernel), List.mem_of_getElem? (i := 179) (by decide +kernel)⟩
theorem lw_p2 : lw_okq (⟨"BrinePans$Text", "firstFault", "()I"⟩, 2) := ⟨⟨by decide +kernel, by decide +kernel⟩, List.mem_of_getElem? (i := 19) (by decide +kernel), List.mem_of_getElem? (i := 186) (by decide +kernel), List.mem_of_getElem? (i := 187) (by decide +kernel)⟩
theorem lw_p3 : lw_okq (⟨"BrinePans$Text", "layOut", "(LBrinePans$Ground;LBrinePans$Pans;)V"⟩, 2) := ⟨⟨by decide +kernel, by decide +kernel⟩, List.mem_of_getElem? (i := 19) (by decide +kernel), List.mem_of_getElem? (i := 203) (by decide +kernel), List.mem_of_getElem? (i := 204) (by decide +kernel)⟩
theorem lw_p4 : lw_okq (⟨"BrinePans$Ground", "clear", "()V"⟩, 4) := ⟨⟨by decide +kernel, by decide +kernel⟩, List.mem_of_getElem? (i := 34) (by decide +kernel), List.mem_of_getElem? (i := 207) (by decide +kernel), List.mem_of_getElem? (i := 208) (by decide +kernel)⟩
theorem lw_p5 : lw_okq (⟨"BrinePans$Pans", "clear", "()V"⟩, 6) := ⟨⟨by decide +kernel, by decide +kernel⟩, List.mem_of_getElem? (i := 59) (by decide +kernel), List.mem_of_getElem? (i := 211) (by decide +kernel), List.mem_of_getElem? (i := 212) (by decide +kernel)⟩
theorem lw_p6 : lw_okq (⟨"BrinePans$Pans", "emptyAllBut", "(I)V"⟩, 6) := ⟨⟨by decide +kernel, by decide +kernel⟩, List.mem_of_getElem? (i := 59) (by decide +kernel), List.mem_of_getElem? (i := 215) (by decide +kernel), List.mem_of_getElem? (i := 216) (by decide +kernel)⟩
theorem lw_p7 : lw_okq (⟨"BrinePans$Ground", "addPan", "(I)V"⟩, 4) := ⟨⟨by decide +kernel, by decide +kernel⟩, List.mem_of_getElem? (i := 34) (by decide +kernel), List.mem_of_getElem? (i := 219) (by decide +kernel), List.mem_of_getElem? (i := 220) (by decide +kernel)⟩
theorem lw_p8 : lw_okq (⟨"BrinePans$Ground", "addSky", "(I)V"⟩, 4) := ⟨⟨by decide +kernel, by decide +kernel⟩, List.mem_of_getElem? (i := 34) (by decide +kernel), List.mem_of_getElem? (i := 223) (by decide +kernel), List.mem_of_getElem? (i := 224) (by decide +kernel)⟩
theorem lw_p9 : lw_okq (⟨"BrinePans$Acts", "clear", "()V"⟩, 3) := ⟨⟨by decide +kernel, by decide +kernel⟩, List.mem_of_getElem? (i := 91) (by decide +kernel), List.mem_of_getElem? (i := 227) (by decide +kernel), List.mem_of_getElem? (i := 228) (by decide +kernel)⟩
theorem lw_p10 : lw_okq (⟨"BrinePans$Ground", "skyOf", "(I)I"⟩, 4) := ⟨⟨by decide +kernel, by decide +kernel⟩, List.mem_of_getElem? (i := 34) (by decide +kernel), List.mem_of_getElem? (i := 235) (by decide +kernel), List.mem_of_getElem? (i := 236) (by decide +kernel)⟩
theorem lw_p11 : lw_okq (⟨"BrinePans$Pans", "sumOf", "([I)I"⟩, 6) := ⟨⟨by decide +kernel, by decide +kernel⟩, List.mem_of_getElem? (i := 59) (by decide +kernel), List.mem_of_getElem? (i := 239) (by decide +kernel), List.mem_of_getElem? (i := 240) (by decide +kernel)⟩
theorem lw_p12 : lw_okq (⟨"BrinePans$Pans", "crustOfAll", "()I"⟩, 6) := ⟨⟨by decide +kernel, by decide +kernel⟩, List.mem_of_getElem? (i := 59) (by decide +kernel), List.mem_of_getElem? (i := 243) (by decide +kernel), List.mem_of_getElem? (i := 244) (by decide +kernel)⟩
theorem lw_p13 : lw_okq (⟨"BrinePans$Pans", "crustOf", "(I)I"⟩, 6) := ⟨⟨by decide +kernel, by decide +kernel⟩, List.mem_of_getElem? (i := 59) (by decide +kernel), List.mem_of_getElem? (i := 247) (by decide +kernel), List.mem_of_getElem? (i := 248) (by decide +kernel)⟩
theorem lw_p14 : lw_okq (⟨"BrinePans$Pans", "brineOf", "(I)I"⟩, 6) := ⟨⟨by decide +kernel, by decide +kernel⟩, List.mem_of_getElem? (i := 59) (by decide +kernel), List.mem_of_getElem? (i := 251) (by decide +kernel), List.mem_of_getElem? (i := 252) (by decide +kernel)⟩
theorem lw_p15 : lw_okq (⟨"BrinePans$Pans", "rakeable", "()I"⟩, 6) := ⟨⟨by decide +kernel, by decide +kernel⟩, List.mem_of_getElem? (i := 59) (by decide +kernel), List.mem_of_getElem? (i := 255) (by decide +kernel), List.mem_of_getElem? (i := 256) (by decide +kernel)⟩
def lw_privs_1 : List (MethodName × Nat) := [(⟨"BrinePans$Text", "append", "(I)I"⟩, 2), (⟨"BrinePans$Text", "clear", "()I"⟩, 2), (⟨"BrinePans$Text", "firstFault", "()I"⟩, 2), (⟨"BrinePans$Text", "layOut", "(LBrinePans$Ground;LBrinePans$Pans;)V"⟩, 2), (⟨"BrinePans$Ground", "clear", "()V"⟩, 4), (⟨"BrinePans$Pans", "clear", "()V"⟩, 6), (⟨"BrinePans$Pans", "emptyAllBut", "(I)V"⟩, 6), (⟨"BrinePans$Ground", "addPan", "(I)V"⟩, 4), (⟨"BrinePans$Ground", "addSky", "(I)V"⟩, 4), (⟨"BrinePans$Acts", "clear", "()V"⟩, 3), (⟨"BrinePans$Ground", "skyOf", "(I)I"⟩, 4), (⟨"BrinePans$Pans", "sumOf", "([I)I"⟩, 6), (⟨"BrinePans$Pans", "crustOfAll", "()I"⟩, 6), (⟨"BrinePans$Pans", "crustOf", "(I)I"⟩, 6), (⟨"BrinePans$Pans", "brineOf", "(I)I"⟩, 6), (⟨"BrinePans$Pans", "rakeable", "()I"⟩, 6)]
theorem lw_r1 : ∀ q ∈ lw_privs_1, lw_okq q := List.forall_mem_cons.mpr ⟨lw_p0, List.forall_mem_cons.mpr ⟨lw_p1, List.forall_mem_cons.mpr ⟨lw_p2, List.forall_mem_cons.mpr ⟨lw_p3, List.forall_mem_cons.mpr ⟨lw_p4, List.forall_mem_cons.mpr ⟨lw_p5, List.forall_mem_cons.mpr ⟨lw_p6, List.forall_mem_cons.mpr ⟨lw_p7, List.forall_mem_cons.mpr ⟨lw_p8, List.forall_mem_cons.mpr ⟨lw_p9, List.forall_mem_cons.mpr ⟨lw_p10, List.forall_mem_cons.mpr ⟨lw_p11, List.forall_mem_cons.mpr ⟨lw_p12, List.forall_mem_cons.mpr ⟨lw_p13, List.forall_mem_cons.mpr ⟨lw_p14, List.forall_mem_cons.mpr ⟨lw_p15, fun _ h => absurd h List.not_mem_nil⟩⟩⟩⟩⟩⟩⟩⟩⟩⟩⟩⟩⟩⟩⟩⟩
theorem lw_p16 : lw_okq (⟨"BrinePans$Pans", "canRake", "(I)Z"⟩, 6) := ⟨⟨by decide +kernel, by decide +kernel⟩, List.mem_of_getElem? (i := 59) (by decide +kernel), List.mem_of_getElem? (i := 259) (by decide +kernel), List.mem_of_getElem? (i := 260) (by decide +kernel)⟩
theorem lw_p17 : lw_okq (⟨"BrinePans$Ground", "hasPan", "(I)Z"⟩, 4) := ⟨⟨by decide +kernel, by decide +kernel⟩, List.mem_of_getElem? (i := 34) (by decide +kernel), List.mem_of_getElem? (i := 267) (by decide +kernel), List.mem_of_getElem? (i := 268) (by decide +kernel)⟩
theorem lw_p18 : lw_okq (⟨"BrinePans$Pans", "roomOf", "(I)I"⟩, 6) := ⟨⟨by decide +kernel, by decide +kernel⟩, List.mem_of_getElem? (i := 59) (by decide +kernel), List.mem_of_getElem? (i := 273) (by decide +kernel), List.mem_of_getElem? (i := 274) (by decide +kernel)⟩
theorem lw_p19 : lw_okq (⟨"BrinePans$Ground", "depthOf", "(I)I"⟩, 4) := ⟨⟨by decide +kernel, by decide +kernel⟩, List.mem_of_getElem? (i := 34) (by decide +kernel), List.mem_of_getElem? (i := 277) (by decide +kernel), List.mem_of_getElem? (i := 278) (by decide +kernel)⟩
theorem lw_p20 : lw_okq (⟨"BrinePans", "fromNow", "()LBrinePans$Pans;"⟩, 11) := ⟨⟨by decide +kernel, by decide +kernel⟩, List.mem_of_getElem? (i := 11) (by decide +kernel), List.mem_of_getElem? (i := 285) (by decide +kernel), List.mem_of_getElem? (i := 286) (by decide +kernel)⟩
theorem lw_p21 : lw_okq (⟨"BrinePans$Pans", "copy", "(LBrinePans$Pans;)V"⟩, 6) := ⟨⟨by decide +kernel, by decide +kernel⟩, List.mem_of_getElem? (i := 59) (by decide +kernel), List.mem_of_getElem? (i := 289) (by decide +kernel), List.mem_of_getElem? (i := 290) (by decide +kernel)⟩
theorem lw_p22 : lw_okq (⟨"BrinePans$Pans", "passDay", "(Z)V"⟩, 6) := ⟨⟨by decide +kernel, by decide +kernel⟩, List.mem_of_getElem? (i := 59) (by decide +kernel), List.mem_of_getElem? (i := 293) (by decide +kernel), List.mem_of_getElem? (i := 294) (by decide +kernel)⟩
theorem lw_p23 : lw_okq (⟨"BrinePans$Ground", "gateCount", "()I"⟩, 4) := ⟨⟨by decide +kernel, by decide +kernel⟩, List.mem_of_getElem? (i := 34) (by decide +kernel), List.mem_of_getElem? (i := 297) (by decide +kernel), List.mem_of_getElem? (i := 298) (by decide +kernel)⟩
theorem lw_p24 : lw_okq (⟨"BrinePans$Pans", "isOpen", "(I)Z"⟩, 6) := ⟨⟨by decide +kernel, by decide +kernel⟩, List.mem_of_getElem? (i := 59) (by decide +kernel), List.mem_of_getElem? (i := 301) (by decide +kernel), List.mem_of_getElem? (i := 302) (by decide +kernel)⟩
theorem lw_p25 : lw_okq (⟨"BrinePans$Pans", "letOn", "(II)I"⟩, 6) := ⟨⟨by decide +kernel, by decide +kernel⟩, List.mem_of_getElem? (i := 59) (by decide +kernel), List.mem_of_getElem? (i := 305) (by decide +kernel), List.mem_of_getElem? (i := 306) (by decide +kernel)⟩
theorem lw_p26 : lw_okq (⟨"BrinePans$Ground", "hasGate", "(I)Z"⟩, 4) := ⟨⟨by decide +kernel, by decide +kernel⟩, List.mem_of_getElem? (i := 34) (by decide +kernel), List.mem_of_getElem? (i := 309) (by decide +kernel), List.mem_of_getElem? (i := 310) (by decide +kernel)⟩
theorem lw_p27 : lw_okq (⟨"BrinePans$Pans", "drain", "(II)I"⟩, 6) := ⟨⟨by decide +kernel, by decide +kernel⟩, List.mem_of_getElem? (i := 59) (by decide +kernel), List.mem_of_getElem? (i := 316) (by decide +kernel), List.mem_of_getElem? (i := 317) (by decide +kernel)⟩
theorem lw_p28 : lw_okq (⟨"BrinePans$Pans", "fill", "(III)V"⟩, 6) := ⟨⟨by decide +kernel, by decide +kernel⟩, List.mem_of_getElem? (i := 59) (by decide +kernel), List.mem_of_getElem? (i := 320) (by decide +kernel), List.mem_of_getElem? (i := 321) (by decide +kernel)⟩
theorem lw_p29 : lw_okq (⟨"BrinePans$Pans", "rain", "(I)V"⟩, 6) := ⟨⟨by decide +kernel, by decide +kernel⟩, List.mem_of_getElem? (i := 59) (by decide +kernel), List.mem_of_getElem? (i := 328) (by decide +kernel), List.mem_of_getElem? (i := 329) (by decide +kernel)⟩
theorem lw_p30 : lw_okq (⟨"BrinePans$Pans", "shine", "(I)V"⟩, 6) := ⟨⟨by decide +kernel, by decide +kernel⟩, List.mem_of_getElem? (i := 59) (by decide +kernel), List.mem_of_getElem? (i := 332) (by decide +kernel), List.mem_of_getElem? (i := 333) (by decide +kernel)⟩
theorem lw_p31 : lw_okq (⟨"BrinePans", "settle", "(I)I"⟩, 11) := ⟨⟨by decide +kernel, by decide +kernel⟩, List.mem_of_getElem? (i := 11) (by decide +kernel), List.mem_of_getElem? (i := 339) (by decide +kernel), List.mem_of_getElem? (i := 340) (by decide +kernel)⟩
def lw_privs_2 : List (MethodName × Nat) := [(⟨"BrinePans$Pans", "canRake", "(I)Z"⟩, 6), (⟨"BrinePans$Ground", "hasPan", "(I)Z"⟩, 4), (⟨"BrinePans$Pans", "roomOf", "(I)I"⟩, 6), (⟨"BrinePans$Ground", "depthOf", "(I)I"⟩, 4), (⟨"BrinePans", "fromNow", "()LBrinePans$Pans;"⟩, 11), (⟨"BrinePans$Pans", "copy", "(LBrinePans$Pans;)V"⟩, 6), (⟨"BrinePans$Pans", "passDay", "(Z)V"⟩, 6), (⟨"BrinePans$Ground", "gateCount", "()I"⟩, 4), (⟨"BrinePans$Pans", "isOpen", "(I)Z"⟩, 6), (⟨"BrinePans$Pans", "letOn", "(II)I"⟩, 6), (⟨"BrinePans$Ground", "hasGate", "(I)Z"⟩, 4), (⟨"BrinePans$Pans", "drain", "(II)I"⟩, 6), (⟨"BrinePans$Pans", "fill", "(III)V"⟩, 6), (⟨"BrinePans$Pans", "rain", "(I)V"⟩, 6), (⟨"BrinePans$Pans", "shine", "(I)V"⟩, 6), (⟨"BrinePans", "settle", "(I)I"⟩, 11)]
theorem lw_r2 : ∀ q ∈ lw_privs_2, lw_okq q := List.forall_mem_cons.mpr ⟨lw_p16, List.forall_mem_cons.mpr ⟨lw_p17, List.forall_mem_cons.mpr ⟨lw_p18, List.forall_mem_cons.mpr ⟨lw_p19, List.forall_mem_cons.mpr ⟨lw_p20, List.forall_mem_cons.mpr ⟨lw_p21, List.forall_mem_cons.mpr ⟨lw_p22, List.forall_mem_cons.mpr ⟨lw_p23, List.forall_mem_cons.mpr ⟨lw_p24, List.forall_mem_cons.mpr ⟨lw_p25, List.forall_mem_cons.mpr ⟨lw_p26, List.forall_mem_cons.mpr ⟨lw_p27, List.forall_mem_cons.mpr ⟨lw_p28, List.forall_mem_cons.mpr ⟨lw_p29, List.forall_mem_cons.mpr ⟨lw_p30, List.forall_mem_cons.mpr ⟨lw_p31, fun _ h => absurd h List.not_mem_nil⟩⟩⟩⟩⟩⟩⟩⟩⟩⟩⟩⟩⟩⟩⟩⟩
theorem lw_p32 : lw_okq (⟨"BrinePans$Acts", "add", "(LBrinePans$Pans;)V"⟩, 3) := ⟨⟨by decide +kernel, by decide +kernel⟩, List.mem_of_getElem? (i := 91) (by decide +kernel), List.mem_of_getElem? (i := 343) (by decide +kernel), List.mem_of_getElem? (i := 344) (by decide +kernel)⟩
theorem lw_p33 : lw_okq (⟨"BrinePans$Pans", "takeSea", "(I)I"⟩, 6) := ⟨⟨by decide +kernel, by decide +kernel⟩, List.mem_of_getElem? (i := 59) (by decide +kernel), List.mem_of_getElem? (i := 353) (by decide +kernel), List.mem_of_getElem? (i := 354) (by decide +kernel)⟩
theorem lw_p34 : lw_okq (⟨"BrinePans$Pans", "turnGate", "(I)I"⟩, 6) := ⟨⟨by decide +kernel, by decide +kernel⟩, List.mem_of_getElem? (i := 59) (by decide +kernel), List.mem_of_getElem? (i := 367) (by decide +kernel), List.mem_of_getElem? (i := 368) (by decide +kernel)⟩
theorem lw_p35 : lw_okq (⟨"BrinePans$Pans", "setGate", "(IZ)V"⟩, 6) := ⟨⟨by decide +kernel, by decide +kernel⟩, List.mem_of_getElem? (i := 59) (by decide +kernel), List.mem_of_getElem? (i := 371) (by decide +kernel), List.mem_of_getElem? (i := 372) (by decide +kernel)⟩
theorem lw_p36 : lw_okq (⟨"BrinePans$Pans", "rakeUp", "(I)I"⟩, 6) := ⟨⟨by decide +kernel, by decide +kernel⟩, List.mem_of_getElem? (i := 59) (by decide +kernel), List.mem_of_getElem? (i := 379) (by decide +kernel), List.mem_of_getElem? (i := 380) (by decide +kernel)⟩
theorem lw_p37 : lw_okq (⟨"BrinePans$Acts", "takeBack", "(LBrinePans$Pans;)I"⟩, 3) := ⟨⟨by decide +kernel, by decide +kernel⟩, List.mem_of_getElem? (i := 91) (by decide +kernel), List.mem_of_getElem? (i := 387) (by decide +kernel), List.mem_of_getElem? (i := 388) (by decide +kernel)⟩
theorem lw_p38 : lw_okq (⟨"BrinePans$Pans", "passDays", "(I)V"⟩, 6) := ⟨⟨by decide +kernel, by decide +kernel⟩, List.mem_of_getElem? (i := 59) (by decide +kernel), List.mem_of_getElem? (i := 396) (by decide +kernel), List.mem_of_getElem? (i := 397) (by decide +kernel)⟩
theorem lw_p39 : lw_okq (⟨"BrinePans$Pans", "crustBehind", "(I)I"⟩, 6) := ⟨⟨by decide +kernel, by decide +kernel⟩, List.mem_of_getElem? (i := 59) (by decide +kernel), List.mem_of_getElem? (i := 405) (by decide +kernel), List.mem_of_getElem? (i := 406) (by decide +kernel)⟩
theorem lw_p40 : lw_okq (⟨"BrinePans$Pans", "isDone", "(III)Z"⟩, 6) := ⟨⟨by decide +kernel, by decide +kernel⟩, List.mem_of_getElem? (i := 59) (by decide +kernel), List.mem_of_getElem? (i := 439) (by decide +kernel), List.mem_of_getElem? (i := 440) (by decide +kernel)⟩
theorem lw_p41 : lw_okq (⟨"BrinePans$Finds", "add", "(III)I"⟩, 4) := ⟨⟨by decide +kernel, by decide +kernel⟩, List.mem_of_getElem? (i := 111) (by decide +kernel), List.mem_of_getElem? (i := 466) (by decide +kernel), List.mem_of_getElem? (i := 467) (by decide +kernel)⟩
theorem lw_p42 : lw_okq (⟨"BrinePans$Finds", "clear", "()I"⟩, 4) := ⟨⟨by decide +kernel, by decide +kernel⟩, List.mem_of_getElem? (i := 111) (by decide +kernel), List.mem_of_getElem? (i := 474) (by decide +kernel), List.mem_of_getElem? (i := 475) (by decide +kernel)⟩
theorem lw_p43 : lw_okq (⟨"BrinePans$Finds", "allow", "(I)Z"⟩, 4) := ⟨⟨by decide +kernel, by decide +kernel⟩, List.mem_of_getElem? (i := 111) (by decide +kernel), List.mem_of_getElem? (i := 482) (by decide +kernel), List.mem_of_getElem? (i := 483) (by decide +kernel)⟩
theorem lw_p44 : lw_okq (⟨"BrinePans", "weigh", "(III)V"⟩, 11) := ⟨⟨by decide +kernel, by decide +kernel⟩, List.mem_of_getElem? (i := 11) (by decide +kernel), List.mem_of_getElem? (i := 492) (by decide +kernel), List.mem_of_getElem? (i := 493) (by decide +kernel)⟩
theorem lw_p45 : lw_okq (⟨"BrinePans", "isAtRest", "(I)Z"⟩, 11) := ⟨⟨by decide +kernel, by decide +kernel⟩, List.mem_of_getElem? (i := 11) (by decide +kernel), List.mem_of_getElem? (i := 497) (by decide +kernel), List.mem_of_getElem? (i := 498) (by decide +kernel)⟩
theorem lw_p46 : lw_okq (⟨"BrinePans$Pans", "befall", "(I)V"⟩, 6) := ⟨⟨by decide +kernel, by decide +kernel⟩, List.mem_of_getElem? (i := 59) (by decide +kernel), List.mem_of_getElem? (i := 516) (by decide +kernel), List.mem_of_getElem? (i := 517) (by decide +kernel)⟩
theorem lw_p47 : lw_okq (⟨"BrinePansModel", "readMarsh", "()I"⟩, 31) := ⟨⟨by decide +kernel, by decide +kernel⟩, List.mem_of_getElem? (i := 528) (by decide +kernel), List.mem_of_getElem? (i := 644) (by decide +kernel), List.mem_of_getElem? (i := 645) (by decide +kernel)⟩
def lw_privs_3 : List (MethodName × Nat) := [(⟨"BrinePans$Acts", "add", "(LBrinePans$Pans;)V"⟩, 3), (⟨"BrinePans$Pans", "takeSea", "(I)I"⟩, 6), (⟨"BrinePans$Pans", "turnGate", "(I)I"⟩, 6), (⟨"BrinePans$Pans", "setGate", "(IZ)V"⟩, 6), (⟨"BrinePans$Pans", "rakeUp", "(I)I"⟩, 6), (⟨"BrinePans$Acts", "takeBack", "(LBrinePans$Pans;)I"⟩, 3), (⟨"BrinePans$Pans", "passDays", "(I)V"⟩, 6), (⟨"BrinePans$Pans", "crustBehind", "(I)I"⟩, 6), (⟨"BrinePans$Pans", "isDone", "(III)Z"⟩, 6), (⟨"BrinePans$Finds", "add", "(III)I"⟩, 4), (⟨"BrinePans$Finds", "clear", "()I"⟩, 4), (⟨"BrinePans$Finds", "allow", "(I)Z"⟩, 4), (⟨"BrinePans", "weigh", "(III)V"⟩, 11), (⟨"BrinePans", "isAtRest", "(I)Z"⟩, 11), (⟨"BrinePans$Pans", "befall", "(I)V"⟩, 6), (⟨"BrinePansModel", "readMarsh", "()I"⟩, 31)]
theorem lw_r3 : ∀ q ∈ lw_privs_3, lw_okq q := List.forall_mem_cons.mpr ⟨lw_p32, List.forall_mem_cons.mpr ⟨lw_p33, List.forall_mem_cons.mpr ⟨lw_p34, List.forall_mem_cons.mpr ⟨lw_p35, List.forall_mem_cons.mpr ⟨lw_p36, List.forall_mem_cons.mpr ⟨lw_p37, List.forall_mem_cons.mpr ⟨lw_p38, List.forall_mem_cons.mpr ⟨lw_p39, List.forall_mem_cons.mpr ⟨lw_p40, List.forall_mem_cons.mpr ⟨lw_p41, List.forall_mem_cons.mpr ⟨lw_p42, List.forall_mem_cons.mpr ⟨lw_p43, List.forall_mem_cons.mpr ⟨lw_p44, List.forall_mem_cons.mpr ⟨lw_p45, List.forall_mem_cons.mpr ⟨lw_p46, List.forall_mem_cons.mpr ⟨lw_p47, fun _ h => absurd h List.not_mem_nil⟩⟩⟩⟩⟩⟩⟩⟩⟩⟩⟩⟩⟩⟩⟩⟩
theorem lw_p48 : lw_okq (⟨"BrinePansModel", "readThing", "()Z"⟩, 31) := ⟨⟨by decide +kernel, by decide +kernel⟩, List.mem_of_getElem? (i := 528) (by decide +kernel), List.mem_of_getElem? (i := 648) (by decide +kernel), List.mem_of_getElem? (i := 649) (by decide +kernel)⟩
theorem lw_p49 : lw_okq (⟨"BrinePansModel", "readOnePan", "()Z"⟩, 31) := ⟨⟨by decide +kernel, by decide +kernel⟩, List.mem_of_getElem? (i := 528) (by decide +kernel), List.mem_of_getElem? (i := 652) (by decide +kernel), List.mem_of_getElem? (i := 653) (by decide +kernel)⟩
theorem lw_p50 : lw_okq (⟨"BrinePansModel", "figure", "(II)I"⟩, 31) := ⟨⟨by decide +kernel, by decide +kernel⟩, List.mem_of_getElem? (i := 528) (by decide +kernel), List.mem_of_getElem? (i := 656) (by decide +kernel), List.mem_of_getElem? (i := 657) (by decide +kernel)⟩
theorem lw_p51 : lw_okq (⟨"BrinePansModel", "readOneSky", "(Z)Z"⟩, 31) := ⟨⟨by decide +kernel, by decide +kernel⟩, List.mem_of_getElem? (i := 528) (by decide +kernel), List.mem_of_getElem? (i := 660) (by decide +kernel), List.mem_of_getElem? (i := 661) (by decide +kernel)⟩
theorem lw_p52 : lw_okq (⟨"BrinePansModel", "skyOf", "([I)I"⟩, 31) := ⟨⟨by decide +kernel, by decide +kernel⟩, List.mem_of_getElem? (i := 528) (by decide +kernel), List.mem_of_getElem? (i := 672) (by decide +kernel), List.mem_of_getElem? (i := 673) (by decide +kernel)⟩
theorem lw_p53 : lw_okq (⟨"BrinePansModel", "sumFrom", "(I)I"⟩, 31) := ⟨⟨by decide +kernel, by decide +kernel⟩, List.mem_of_getElem? (i := 528) (by decide +kernel), List.mem_of_getElem? (i := 676) (by decide +kernel), List.mem_of_getElem? (i := 677) (by decide +kernel)⟩
theorem lw_p54 : lw_okq (⟨"BrinePansModel", "crustOfAll", "([I)I"⟩, 31) := ⟨⟨by decide +kernel, by decide +kernel⟩, List.mem_of_getElem? (i := 528) (by decide +kernel), List.mem_of_getElem? (i := 680) (by decide +kernel), List.mem_of_getElem? (i := 681) (by decide +kernel)⟩
theorem lw_p55 : lw_okq (⟨"BrinePansModel", "ripeOnes", "([I)I"⟩, 31) := ⟨⟨by decide +kernel, by decide +kernel⟩, List.mem_of_getElem? (i := 528) (by decide +kernel), List.mem_of_getElem? (i := 690) (by decide +kernel), List.mem_of_getElem? (i := 691) (by decide +kernel)⟩
theorem lw_p56 : lw_okq (⟨"BrinePansModel", "noPan", "(I)Z"⟩, 31) := ⟨⟨by decide +kernel, by decide +kernel⟩, List.mem_of_getElem? (i := 528) (by decide +kernel), List.mem_of_getElem? (i := 701) (by decide +kernel), List.mem_of_getElem? (i := 702) (by decide +kernel)⟩
theorem lw_p57 : lw_okq (⟨"BrinePansModel", "room", "([II)I"⟩, 31) := ⟨⟨by decide +kernel, by decide +kernel⟩, List.mem_of_getElem? (i := 528) (by decide +kernel), List.mem_of_getElem? (i := 705) (by decide +kernel), List.mem_of_getElem? (i := 706) (by decide +kernel)⟩
theorem lw_p58 : lw_okq (⟨"BrinePansModel", "note", "()V"⟩, 31) := ⟨⟨by decide +kernel, by decide +kernel⟩, List.mem_of_getElem? (i := 528) (by decide +kernel), List.mem_of_getElem? (i := 713) (by decide +kernel), List.mem_of_getElem? (i := 714) (by decide +kernel)⟩
theorem lw_p59 : lw_okq (⟨"BrinePansModel", "goDay", "([IZ)V"⟩, 31) := ⟨⟨by decide +kernel, by decide +kernel⟩, List.mem_of_getElem? (i := 528) (by decide +kernel), List.mem_of_getElem? (i := 717) (by decide +kernel), List.mem_of_getElem? (i := 718) (by decide +kernel)⟩
theorem lw_p60 : lw_okq (⟨"BrinePansModel", "weather", "([III)V"⟩, 31) := ⟨⟨by decide +kernel, by decide +kernel⟩, List.mem_of_getElem? (i := 528) (by decide +kernel), List.mem_of_getElem? (i := 733) (by decide +kernel), List.mem_of_getElem? (i := 734) (by decide +kernel)⟩
theorem lw_p61 : lw_okq (⟨"BrinePansModel", "noGate", "(I)Z"⟩, 31) := ⟨⟨by decide +kernel, by decide +kernel⟩, List.mem_of_getElem? (i := 528) (by decide +kernel), List.mem_of_getElem? (i := 749) (by decide +kernel), List.mem_of_getElem? (i := 750) (by decide +kernel)⟩
theorem lw_p62 : lw_okq (⟨"BrinePansModel", "begin", "()V"⟩, 31) := ⟨⟨by decide +kernel, by decide +kernel⟩, List.mem_of_getElem? (i := 528) (by decide +kernel), List.mem_of_getElem? (i := 774) (by decide +kernel), List.mem_of_getElem? (i := 775) (by decide +kernel)⟩
theorem lw_p63 : lw_okq (⟨"BrinePansModel", "goDays", "([II)V"⟩, 31) := ⟨⟨by decide +kernel, by decide +kernel⟩, List.mem_of_getElem? (i := 528) (by decide +kernel), List.mem_of_getElem? (i := 778) (by decide +kernel), List.mem_of_getElem? (i := 779) (by decide +kernel)⟩
def lw_privs_4 : List (MethodName × Nat) := [(⟨"BrinePansModel", "readThing", "()Z"⟩, 31), (⟨"BrinePansModel", "readOnePan", "()Z"⟩, 31), (⟨"BrinePansModel", "figure", "(II)I"⟩, 31), (⟨"BrinePansModel", "readOneSky", "(Z)Z"⟩, 31), (⟨"BrinePansModel", "skyOf", "([I)I"⟩, 31), (⟨"BrinePansModel", "sumFrom", "(I)I"⟩, 31), (⟨"BrinePansModel", "crustOfAll", "([I)I"⟩, 31), (⟨"BrinePansModel", "ripeOnes", "([I)I"⟩, 31), (⟨"BrinePansModel", "noPan", "(I)Z"⟩, 31), (⟨"BrinePansModel", "room", "([II)I"⟩, 31), (⟨"BrinePansModel", "note", "()V"⟩, 31), (⟨"BrinePansModel", "goDay", "([IZ)V"⟩, 31), (⟨"BrinePansModel", "weather", "([III)V"⟩, 31), (⟨"BrinePansModel", "noGate", "(I)Z"⟩, 31), (⟨"BrinePansModel", "begin", "()V"⟩, 31), (⟨"BrinePansModel", "goDays", "([II)V"⟩, 31)]
theorem lw_r4 : ∀ q ∈ lw_privs_4, lw_okq q := List.forall_mem_cons.mpr ⟨lw_p48, List.forall_mem_cons.mpr ⟨lw_p49, List.forall_mem_cons.mpr ⟨lw_p50, List.forall_mem_cons.mpr ⟨lw_p51, List.forall_mem_cons.mpr ⟨lw_p52, List.forall_mem_cons.mpr ⟨lw_p53, List.forall_mem_cons.mpr ⟨lw_p54, List.forall_mem_cons.mpr ⟨lw_p55, List.forall_mem_cons.mpr ⟨lw_p56, List.forall_mem_cons.mpr ⟨lw_p57, List.forall_mem_cons.mpr ⟨lw_p58, List.forall_mem_cons.mpr ⟨lw_p59, List.forall_mem_cons.mpr ⟨lw_p60, List.forall_mem_cons.mpr ⟨lw_p61, List.forall_mem_cons.mpr ⟨lw_p62, List.forall_mem_cons.mpr ⟨lw_p63, fun _ h => absurd h List.not_mem_nil⟩⟩⟩⟩⟩⟩⟩⟩⟩⟩⟩⟩⟩⟩⟩⟩
theorem lw_p64 : lw_okq (⟨"BrinePansModel", "findBest", "(I)V"⟩, 31) := ⟨⟨by decide +kernel, by decide +kernel⟩, List.mem_of_getElem? (i := 528) (by decide +kernel), List.mem_of_getElem? (i := 794) (by decide +kernel), List.mem_of_getElem? (i := 795) (by decide +kernel)⟩
theorem lw_p65 : lw_okq (⟨"BrinePansModel", "does", "(I)Z"⟩, 31) := ⟨⟨by decide +kernel, by decide +kernel⟩, List.mem_of_getElem? (i := 528) (by decide +kernel), List.mem_of_getElem? (i := 815) (by decide +kernel), List.mem_of_getElem? (i := 816) (by decide +kernel)⟩
theorem lw_p66 : lw_okq (⟨"BrinePansModel", "seas", "(I)Z"⟩, 31) := ⟨⟨by decide +kernel, by decide +kernel⟩, List.mem_of_getElem? (i := 528) (by decide +kernel), List.mem_of_getElem? (i := 819) (by decide +kernel), List.mem_of_getElem? (i := 820) (by decide +kernel)⟩
theorem lw_p67 : lw_okq (⟨"BrinePansModel", "lets", "(II)Z"⟩, 31) := ⟨⟨by decide +kernel, by decide +kernel⟩, List.mem_of_getElem? (i := 528) (by decide +kernel), List.mem_of_getElem? (i := 823) (by decide +kernel), List.mem_of_getElem? (i := 824) (by decide +kernel)⟩
theorem lw_p68 : lw_okq (⟨"BrinePansModel", "turns", "(I)Z"⟩, 31) := ⟨⟨by decide +kernel, by decide +kernel⟩, List.mem_of_getElem? (i := 528) (by decide +kernel), List.mem_of_getElem? (i := 827) (by decide +kernel), List.mem_of_getElem? (i := 828) (by decide +kernel)⟩
theorem lw_p69 : lw_okq (⟨"BrinePansModel", "rakes", "(I)Z"⟩, 31) := ⟨⟨by decide +kernel, by decide +kernel⟩, List.mem_of_getElem? (i := 528) (by decide +kernel), List.mem_of_getElem? (i := 831) (by decide +kernel), List.mem_of_getElem? (i := 832) (by decide +kernel)⟩
theorem lw_p70 : lw_okq (⟨"BrinePansModel", "lay", "(II)V"⟩, 31) := ⟨⟨by decide +kernel, by decide +kernel⟩, List.mem_of_getElem? (i := 528) (by decide +kernel), List.mem_of_getElem? (i := 865) (by decide +kernel), List.mem_of_getElem? (i := 866) (by decide +kernel)⟩
def lw_privs_5 : List (MethodName × Nat) := [(⟨"BrinePansModel", "findBest", "(I)V"⟩, 31), (⟨"BrinePansModel", "does", "(I)Z"⟩, 31), (⟨"BrinePansModel", "seas", "(I)Z"⟩, 31), (⟨"BrinePansModel", "lets", "(II)Z"⟩, 31), (⟨"BrinePansModel", "turns", "(I)Z"⟩, 31), (⟨"BrinePansModel", "rakes", "(I)Z"⟩, 31), (⟨"BrinePansModel", "lay", "(II)V"⟩, 31)]
theorem lw_r5 : ∀ q ∈ lw_privs_5, lw_okq q := List.forall_mem_cons.mpr ⟨lw_p64, List.forall_mem_cons.mpr ⟨lw_p65, List.forall_mem_cons.mpr ⟨lw_p66, List.forall_mem_cons.mpr ⟨lw_p67, List.forall_mem_cons.mpr ⟨lw_p68, List.forall_mem_cons.mpr ⟨lw_p69, List.forall_mem_cons.mpr ⟨lw_p70, fun _ h => absurd h List.not_mem_nil⟩⟩⟩⟩⟩⟩⟩
def lw_privs : List (MethodName × Nat) := lw_privs_1 ++ (lw_privs_2 ++ (lw_privs_3 ++ (lw_privs_4 ++ (lw_privs_5))))
def lw_tbl : List Cond := k2_sels lw_privs ++ tables_1
theorem lw_privs_ok : ∀ q ∈ lw_privs, lw_okq q := by
  show ∀ q ∈ lw_privs_1 ++ (lw_privs_2 ++ (lw_privs_3 ++ (lw_privs_4 ++ (lw_privs_5)))), lw_okq q
  exact List.forall_mem_append.mpr ⟨lw_r1, List.forall_mem_append.mpr ⟨lw_r2, List.forall_mem_append.mpr ⟨lw_r3, List.forall_mem_append.mpr ⟨lw_r4, lw_r5⟩⟩⟩⟩
end
section
/-! own frame: an abstract heap of whole numbers with fixed shapes, and a judgement over it -/
abbrev HI : Type := Nat → Nat → Int32
abbrev HL : Type := Nat → Int64
abbrev Out : Type := Option Value × HI × HL
def up (X : HI) (a k : Nat) (v : Int32) : HI := fun b => if b = a then upd (X a) k v else X b
def upY (Y : HL) (a : Nat) (v : Int64) : HL := fun b => if b = a then v else Y b
-- classes
abbrev cAct : String := "BrinePans$Acts"
abbrev cFin : String := "BrinePans$Finds"
abbrev cGro : String := "BrinePans$Ground"
abbrev cPan : String := "BrinePans$Pans"
abbrev cTxt : String := "BrinePans$Text"
abbrev cBri : String := "BrinePans"
abbrev cMod : String := "BrinePansModel"
def tAct : u_T := fun k => match k with
  | 0 => ("BrinePans$Acts", "before", "[LBrinePans$Pans;", true)
  | 1 => ("BrinePans$Acts", "next", "I", false)
  | _ => ("BrinePans$Acts", "count", "I", false)
def tFin : u_T := fun k => match k with
  | 0 => ("BrinePans$Finds", "water", "[I", true)
  | 1 => ("BrinePans$Finds", "crusts", "[I", true)
  | 2 => ("BrinePans$Finds", "isMore", "[Z", true)
  | _ => ("BrinePans$Finds", "count", "I", false)
def tGro : u_T := fun k => match k with
  | 0 => ("BrinePans$Ground", "kinds", "[I", true)
  | 1 => ("BrinePans$Ground", "sky", "[I", true)
  | 2 => ("BrinePans$Ground", "pans", "I", false)
  | _ => ("BrinePans$Ground", "skies", "I", false)
def tPan : u_T := fun k => match k with
  | 0 => ("BrinePans$Pans", "ground", "LBrinePans$Ground;", true)
  | 1 => ("BrinePans$Pans", "water", "[I", true)
  | 2 => ("BrinePans$Pans", "salt", "[I", true)
  | 3 => ("BrinePans$Pans", "open", "I", false)
  | 4 => ("BrinePans$Pans", "heap", "I", false)
  | _ => ("BrinePans$Pans", "day", "I", false)
def tTxt : u_T := fun k => match k with
  | 0 => ("BrinePans$Text", "letters", "[I", true)
  | _ => ("BrinePans$Text", "length", "I", false)
def tBri : u_T := fun k => match k with
  | 0 => ("BrinePans", "text", "LBrinePans$Text;", true)
  | 1 => ("BrinePans", "ground", "LBrinePans$Ground;", true)
  | 2 => ("BrinePans", "now", "LBrinePans$Pans;", true)
  | 3 => ("BrinePans", "trial", "LBrinePans$Pans;", true)
  | 4 => ("BrinePans", "acts", "LBrinePans$Acts;", true)
  | 5 => ("BrinePans", "finds", "LBrinePans$Finds;", true)
  | 6 => ("BrinePans", "slots", "[LBrinePans$Pans;", true)
  | 7 => ("BrinePans", "isKept", "[Z", true)
  | 8 => ("BrinePans", "crustOfSets", "[I", true)
  | 9 => ("BrinePans", "gains", "[I", true)
  | _ => ("BrinePans", "chance", "J", false)
def tMod : u_T := fun k => match k with
  | 0 => ("BrinePansModel", "thrown", "I", false)
  | 1 => ("BrinePansModel", "text", "[I", true)
  | 2 => ("BrinePansModel", "textSize", "I", false)
  | 3 => ("BrinePansModel", "place", "I", false)
  | 4 => ("BrinePansModel", "pans", "I", false)
  | 5 => ("BrinePansModel", "kind", "[I", true)
  | 6 => ("BrinePansModel", "skies", "I", false)
  | 7 => ("BrinePansModel", "sky", "[I", true)
  | 8 => ("BrinePansModel", "readPans", "I", false)
  | 9 => ("BrinePansModel", "readPan", "[I", true)
  | 10 => ("BrinePansModel", "readSkies", "I", false)
  | 11 => ("BrinePansModel", "readSky", "[I", true)
  | 12 => ("BrinePansModel", "page", "[I", true)
  | 13 => ("BrinePansModel", "trial", "[I", true)
  | 14 => ("BrinePansModel", "book", "[I", true)
  | 15 => ("BrinePansModel", "acts", "I", false)
  | 16 => ("BrinePansModel", "kept", "[I", true)
  | 17 => ("BrinePansModel", "isKept", "[Z", true)
  | 18 => ("BrinePansModel", "found", "I", false)
  | 19 => ("BrinePansModel", "foundWater", "[I", true)
  | 20 => ("BrinePansModel", "foundCrust", "[I", true)
  | 21 => ("BrinePansModel", "foundIs", "[I", true)
  | 22 => ("BrinePansModel", "seed", "J", false)
  | 23 => ("BrinePansModel", "bestMuch", "I", false)
  | 24 => ("BrinePansModel", "bestWay", "I", false)
  | 25 => ("BrinePansModel", "saltMany", "I", false)
  | 26 => ("BrinePansModel", "saltFirst", "I", false)
  | 27 => ("BrinePansModel", "restMany", "I", false)
  | 28 => ("BrinePansModel", "restFirst", "I", false)
  | 29 => ("BrinePansModel", "gains", "[I", true)
  | _ => ("BrinePansModel", "value", "[I", true)
def yAct : Nat → FieldType := fun k => match k with
  | 0 => .array (.object "BrinePans$Pans")
  | 1 => .int
  | _ => .int
def yFin : Nat → FieldType := fun k => match k with
  | 0 => .array .int
  | 1 => .array .int
  | 2 => .array .boolean
  | _ => .int
def yGro : Nat → FieldType := fun k => match k with
  | 0 => .array .int
  | 1 => .array .int
  | 2 => .int
  | _ => .int
def yPan : Nat → FieldType := fun k => match k with
  | 0 => .object "BrinePans$Ground"
  | 1 => .array .int
  | 2 => .array .int
  | 3 => .int
  | 4 => .int
  | _ => .int
def yTxt : Nat → FieldType := fun k => match k with
  | 0 => .array .int
  | _ => .int
def yBri : Nat → FieldType := fun k => match k with
  | 0 => .object "BrinePans$Text"
  | 1 => .object "BrinePans$Ground"
  | 2 => .object "BrinePans$Pans"
  | 3 => .object "BrinePans$Pans"
  | 4 => .object "BrinePans$Acts"
  | 5 => .object "BrinePans$Finds"
  | 6 => .array (.object "BrinePans$Pans")
  | 7 => .array .boolean
  | 8 => .array .int
  | 9 => .array .int
  | _ => .long
def yMod : Nat → FieldType := fun k => match k with
  | 0 => .int
  | 1 => .array .int
  | 2 => .int
  | 3 => .int
  | 4 => .int
  | 5 => .array .int
  | 6 => .int
  | 7 => .array .int
  | 8 => .int
  | 9 => .array .int
  | 10 => .int
  | 11 => .array .int
  | 12 => .array .int
  | 13 => .array .int
  | 14 => .array .int
  | 15 => .int
  | 16 => .array .int
  | 17 => .array .boolean
  | 18 => .int
  | 19 => .array .int
  | 20 => .array .int
  | 21 => .array .int
  | 22 => .long
  | 23 => .int
  | 24 => .int
  | 25 => .int
  | 26 => .int
  | 27 => .int
  | 28 => .int
  | 29 => .array .int
  | _ => .array .int
abbrev classes : List vw_C := [(cAct, tAct, 3), (cFin, tFin, 4), (cGro, tGro, 4), (cPan, tPan, 6), (cTxt, tTxt, 2), (cBri, tBri, 11), (cMod, tMod, 31)]
end
section
/-! the fixed world: cells by number, their shapes, where they lie -/
def kd (a : Nat) : Nat × Nat :=
  if a = 0 then (0, 5) else if a = 1 then (0, 4) else if a = 2 then (1, 36) else if a = 3 then (0, 2) else if a = 4 then (1, 6) else if a = 5 then (1, 5)
  else if a = 6 then (0, 0) else if a = 7 then (3, 14) else if a = 8 then (0, 1) else if a = 9 then (1, 6) else if a = 10 then (1, 6) else if a = 11 then (2, 6)
  else if a = 12 then (3, 2) else if a = 13 then (2, 2) else if a = 14 then (1, 64) else if a = 15 then (1, 8)
  else if a < 70 then (if (a - 16) % 3 = 0 then (0, 3) else (1, 6))
  else if a = 70 then (0, 6) else if a = 71 then (1, 36) else if a = 72 then (1, 6) else if a = 73 then (1, 5) else if a = 74 then (1, 18) else if a = 75 then (1, 5) else if a = 76 then (1, 15) else if a = 77 then (1, 15) else if a = 78 then (1, 210) else if a = 79 then (1, 30) else if a = 80 then (2, 2) else if a = 81 then (1, 6) else if a = 82 then (1, 6) else if a = 83 then (1, 6) else if a = 84 then (1, 8) else (1, 64)
def rA (a i : Nat) : Nat := if a = 7 then 28 + 3 * i else 22 + 3 * i
def fB (x : Nat → Int32) (y : Int64) (a : Nat) : List Value :=
  if a = 0 then [.ref 1, .ref 3, .ref 16, .ref 19, .ref 6, .ref 8, .ref 12, .ref 13, .ref 14, .ref 15, .long y]
  else if a = 1 then [.ref 2, .int (x 1)]
  else if a = 3 then [.ref 4, .ref 5, .int (x 2), .int (x 3)]
  else if a = 6 then [.ref 7, .int (x 1), .int (x 2)]
  else if a = 8 then [.ref 9, .ref 10, .ref 11, .int (x 3)]
  else if a = 70 then [.int (x 0), .ref 71, .int (x 2), .int (x 3), .int (x 4), .ref 72, .int (x 6), .ref 73, .int (x 8), .ref 74, .int (x 10), .ref 75, .ref 76, .ref 77, .ref 78, .int (x 15), .ref 79, .ref 80, .int (x 18), .ref 81, .ref 82, .ref 83, .long y, .int (x 23), .int (x 24), .int (x 25), .int (x 26), .int (x 27), .int (x 28), .ref 84, .ref 85]
  else [.ref 3, .ref (a + 1), .ref (a + 2), .int (x 3), .int (x 4), .int (x 5)]
/-- where all lies: field places, addresses, what may change, the three array classes, the static arrays and the script -/
abbrev KK : Type := va_G × ((Nat → Nat) × ((Nat → Prop) × ((ClassId × (ClassId × ClassId)) × (Nat → Nat))))
def kD (K : KK) : va_G := K.1
def kad (K : KK) : Nat → Nat := K.2.1
def kA (K : KK) : Nat → Prop := K.2.2.1
def kI (K : KK) : ClassId := K.2.2.2.1.1
def kZ (K : KK) : ClassId := K.2.2.2.1.2.1
def kP (K : KK) : ClassId := K.2.2.2.1.2.2
def kts (K : KK) : Nat → Nat := K.2.2.2.2
def kT (K : KK) : List (ClassId × FieldType) := [(kI K, .int), (kZ K, .boolean), (kP K, .object "BrinePans$Pans")]
def trV (K : KK) (v : Value) : Value := match v with
  | .ref a => .ref (kad K a)
  | .float x => .ref (kts K x.toNat)
  | v => v
theorem trV_cat (K : KK) (v : Value) : (trV K v).category = v.category := by cases v <;> rfl
def cB (K : KK) (x : Nat → Int32) (y : Int64) (a : Nat) : va_E := match (kd a).1 with
  | 0 => .inr ((kd a).2, (fB x y a).map (trV K))
  | 1 => .inl (kI K, (kd a).2, .inl x)
  | 2 => .inl (kZ K, (kd a).2, .inl x)
  | _ => .inl (kP K, (kd a).2, .inr (.inr (.inr (.inr (fun i => some (kad K (rA a i)))))))
theorem cB_o {K : KK} {x : Nat → Int32} {y : Int64} {a ci : Nat} (h : kd a = (0, ci)) : cB K x y a = .inr (ci, (fB x y a).map (trV K)) := by simp only [cB, h]
theorem cB_i {K : KK} {x : Nat → Int32} {y : Int64} {a n : Nat} (h : kd a = (1, n)) : cB K x y a = .inl (kI K, n, .inl x) := by simp only [cB, h]
theorem cB_z {K : KK} {x : Nat → Int32} {y : Int64} {a n : Nat} (h : kd a = (2, n)) : cB K x y a = .inl (kZ K, n, .inl x) := by simp only [cB, h]
theorem cB_r {K : KK} {x : Nat → Int32} {y : Int64} {a n : Nat} (h : kd a = (3, n)) : cB K x y a = .inl (kP K, n, .inr (.inr (.inr (.inr (fun i => some (kad K (rA a i))))))) := by simp only [cB, h]
def wsOf (K : KK) (X : HI) (Y : HL) : va_W := (List.range 86).map (fun a => (kad K a, cB K (X a) (Y a) a))
theorem ws_at {K : KK} {X : HI} {Y : HL} {a : Nat} (h : a < 86) : (wsOf K X Y)[a]? = some (kad K a, cB K (X a) (Y a) a) := by simp [wsOf, h]
theorem ws_of {K : KK} {X : HI} {Y : HL} {a : Nat} {q : Nat × va_E} (h : (wsOf K X Y)[a]? = some q) : a < 86 ∧ q = (kad K a, cB K (X a) (Y a) a) := by
  have hl : a < 86 := by
    have := (List.getElem?_eq_some_iff.mp h).1
    simpa [wsOf] using this
  rw [ws_at hl] at h
  exact ⟨hl, (Option.some.inj h).symm⟩
theorem ws_set {K : KK} {X X' : HI} {Y Y' : HL} {a : Nat} (h : a < 86) (hX : ∀ b, b ≠ a → X' b = X b) (hY : ∀ b, b ≠ a → Y' b = Y b) : (wsOf K X Y).set a (kad K a, cB K (X' a) (Y' a) a) = wsOf K X' Y' := by
  apply List.ext_getElem?
  intro i
  by_cases hi : i = a
  · subst hi
    rw [List.getElem?_set_self (by simp [wsOf, h]), ws_at h]
  · rw [List.getElem?_set_ne (Ne.symm hi)]
    by_cases h8 : i < 86
    · rw [ws_at h8, ws_at h8, hX i hi, hY i hi]
    · rw [List.getElem?_eq_none (by simp [wsOf]; omega), List.getElem?_eq_none (by simp [wsOf]; omega)]
theorem up_self (X : HI) (a k : Nat) (v : Int32) : up X a k v a = upd (X a) k v := if_pos rfl
theorem up_ne (X : HI) {a b : Nat} (k : Nat) (v : Int32) (h : b ≠ a) : up X a k v b = X b := if_neg h
theorem upY_self (Y : HL) (a : Nat) (v : Int64) : upY Y a v a = v := if_pos rfl
theorem upY_ne (Y : HL) {a b : Nat} (v : Int64) (h : b ≠ a) : upY Y a v b = Y b := if_neg h
theorem ws_up {K : KK} {X : HI} {Y : HL} {a k : Nat} {v : Int32} (h : a < 86) : (wsOf K X Y).set a (kad K a, cB K (upd (X a) k v) (Y a) a) = wsOf K (up X a k v) Y := by
  have e := ws_set (K := K) (X := X) (X' := up X a k v) (Y := Y) (Y' := Y) h (fun b hb => up_ne X k v hb) (fun b _ => rfl)
  rw [up_self] at e
  exact e
theorem ws_upY {K : KK} {X : HI} {Y : HL} {a : Nat} {v : Int64} (h : a < 86) : (wsOf K X Y).set a (kad K a, cB K (X a) v a) = wsOf K X (upY Y a v) := by
  have e := ws_set (K := K) (X := X) (X' := X) (Y := Y) (Y' := upY Y a v) h (fun b _ => rfl) (fun b hb => upY_ne Y v hb)
  rw [upY_self] at e
  exact e
def kOK (K : KK) : Prop := (∀ a b, a < 86 → b < 86 → kad K a = kad K b → a = b) ∧ ∀ a, a < 86 → kA K (kad K a)
theorem ws_D {K : KK} (h : kOK K) (X : HI) (Y : HL) : va_D (kA K) (wsOf K X Y) := by
  refine ⟨fun i j p q hi hj hpq => ?_, fun k q hk => ?_⟩
  · obtain ⟨a1, rfl⟩ := ws_of hi
    obtain ⟨b1, rfl⟩ := ws_of hj
    exact h.1 i j a1 b1 hpq
  · obtain ⟨a1, rfl⟩ := ws_of hk
    exact h.2 k a1
-- the words
def gw : List Cond := lw_tbl.filter goodWord
def isNest : Cond → Bool
  | .fieldLinkNest .. => true
  | .methodLinkNest .. => true
  | _ => false
def nw : List Cond := tables_1.filter isNest
theorem gw_all : ∀ w ∈ gw, (w.onTables && w.keeps) = true ∨ ∃ ty, w = .arrayClass ty := fun w h => good_of_word (List.mem_filter.mp h).2
theorem gw_t {w : Cond} (i : Nat) (h : tables_1[i]? = some w) (hg : goodWord w = true) : w ∈ gw := List.mem_filter.mpr ⟨List.mem_append_right _ (List.mem_of_getElem? h), hg⟩
theorem gw_s {w : Cond} (i : Nat) (h : (k2_sels lw_privs)[i]? = some w) (hg : goodWord w = true) : w ∈ gw := List.mem_filter.mpr ⟨List.mem_append_left _ (List.mem_of_getElem? h), hg⟩
theorem nw_t {w : Cond} (i : Nat) (h : tables_1[i]? = some w) (hg : isNest w = true) : w ∈ nw := List.mem_filter.mpr ⟨List.mem_of_getElem? h, hg⟩
def kN (U : State) : Prop := ∀ w ∈ nw, va_Nw w U
theorem kN.warm {s U : State} (hW : s.WarmedH U.vm) (h : kN s) : kN U := by
  intro w hw
  have h1 := h w hw
  have h2 := (List.mem_filter.mp hw).2
  cases w <;> first | exact va_Nw.warmF hW h1 | exact va_Nw.warmM hW h1 | (exfalso; simp [isNest] at h2)
theorem kN.same {u U : State} (hv : u.vm = U.vm) (h : kN u) : kN U := by
  intro w hw
  have h1 := h w hw
  have h2 := (List.mem_filter.mp hw).2
  cases w <;> first | exact va_Nw.same rfl hv h1 | (exfalso; simp [isNest] at h2)
def fac (j : Nat) : Int32 := match j with
  | 0 => 1
  | 1 => 1
  | 2 => 2
  | 3 => 6
  | 4 => 24
  | 5 => 120
  | _ => 720
def tho (j : Nat) : Int64 := match j with
  | 0 => 1
  | 1 => 1000
  | 2 => 1000000
  | _ => 1000000000
def kSt (K : KK) (U : State) : Prop := va_Z "BrinePans" "FACTORIALS" "[I" (.ref (kts K 1)) (kA K) U U.heap ∧ va_T .int (kts K 1) 7 (fun j => .int (fac j)) (kA K) U U.heap ∧ va_Z "BrinePans" "THOUSANDS" "[J" (.ref (kts K 2)) (kA K) U U.heap ∧ va_T .long (kts K 2) 4 (fun j => .long (tho j)) (kA K) U U.heap
theorem kSt.moved {K : KK} {s U : State} (hvm : s.vm.Alike U.vm) (hk : ∀ q : Nat, q < s.heap.size → ¬ kA K q → U.heap[q]? = s.heap[q]?) (h : kSt K s) : kSt K U :=
  ⟨(h.1.moved hvm).kept hk, (h.2.1.moved hvm).kept hk, (h.2.2.1.moved hvm).kept hk, (h.2.2.2.moved hvm).kept hk⟩
/-- the context of a running method -/
def Cx (K : KK) (own : String) (cc : ByteArray) (nL : Nat) (ret : Option FieldType) (p : Program) (s : State) (m : MethodId) (args : Array Value) (meth : Method) (c : Code) : Prop :=
  p.tables.exec = Jvm.exec ∧ c.code = cc ∧ meth.sig.returnType = ret ∧ c.maxLocals = nL ∧ s.vm.findClass own = some m.cls ∧ (∀ w ∈ gw, w.before args s = true) ∧ meth.locks = false ∧ va_K (kD K) classes (kT K) s ∧ kOK K ∧ kN s ∧ kSt K s
section CXS
variable {K : KK} {own : String} {cc : ByteArray} {nL : Nat} {ret : Option FieldType} {p : Program} {s : State} {m : MethodId} {args : Array Value} {meth : Method} {c : Code}
theorem Cx.ex (h : Cx K own cc nL ret p s m args meth c) : p.tables.exec = Jvm.exec := h.1
theorem Cx.co (h : Cx K own cc nL ret p s m args meth c) : c.code = cc := h.2.1
theorem Cx.re (h : Cx K own cc nL ret p s m args meth c) : meth.sig.returnType = ret := h.2.2.1
theorem Cx.ml (h : Cx K own cc nL ret p s m args meth c) : c.maxLocals = nL := h.2.2.2.1
theorem Cx.ow (h : Cx K own cc nL ret p s m args meth c) : s.vm.findClass own = some m.cls := h.2.2.2.2.1
theorem Cx.ts (h : Cx K own cc nL ret p s m args meth c) : ∀ w ∈ gw, w.before args s = true := h.2.2.2.2.2.1
theorem Cx.lk (h : Cx K own cc nL ret p s m args meth c) : meth.locks = false := h.2.2.2.2.2.2.1
theorem Cx.ka (h : Cx K own cc nL ret p s m args meth c) : va_K (kD K) classes (kT K) s := h.2.2.2.2.2.2.2.1
theorem Cx.ok (h : Cx K own cc nL ret p s m args meth c) : kOK K := h.2.2.2.2.2.2.2.2.1
theorem Cx.ne (h : Cx K own cc nL ret p s m args meth c) : kN s := h.2.2.2.2.2.2.2.2.2.1
theorem Cx.st (h : Cx K own cc nL ret p s m args meth c) : kSt K s := h.2.2.2.2.2.2.2.2.2.2
end CXS
-- locals
def Lp (K : KK) : Nat → List (Option Value) → List (Nat × Value)
  | _, [] => []
  | i, none :: t => Lp K (i + 1) t
  | i, some v :: t => (i, trV K v) :: Lp K (i + 1) t
theorem Lp_iff {K : KK} : ∀ (L : List (Option Value)) (i : Nat) (q : Nat × Value), q ∈ Lp K i L ↔ ∃ k v, L[k]? = some (some v) ∧ q = (i + k, trV K v)
  | [], i, q => by simp [Lp]
  | none :: t, i, q => by
    rw [Lp, Lp_iff t (i + 1) q]
    constructor
    · rintro ⟨k, v, h1, h2⟩
      exact ⟨k + 1, v, by simpa using h1, by rw [h2]; congr 1; omega⟩
    · rintro ⟨k, v, h1, h2⟩
      cases k with
      | zero => simp at h1
      | succ k => exact ⟨k, v, by simpa using h1, by rw [h2]; congr 1; omega⟩
  | some w :: t, i, q => by
    rw [Lp, List.mem_cons, Lp_iff t (i + 1) q]
    constructor
    · rintro (h | ⟨k, v, h1, h2⟩)
      · exact ⟨0, w, rfl, by rw [h]; rfl⟩
      · exact ⟨k + 1, v, by simpa using h1, by rw [h2]; congr 1; omega⟩
    · rintro ⟨k, v, h1, h2⟩
      cases k with
      | zero => left; simp at h1; rw [h2, h1]; rfl
      | succ k => right; exact ⟨k, v, by simpa using h1, by rw [h2]; congr 1; omega⟩
def lvs (K : KK) (ls : Array Slot) (nL : Nat) (L : List (Option Value)) : Prop := lv_has ls nL (Lp K 0 L)
theorem lvs.at {K : KK} {ls : Array Slot} {nL : Nat} {L : List (Option Value)} (h : lvs K ls nL L) {i : Nat} {v : Value} (hv : L[i]? = some (some v)) : ls[i]? = some (.val (trV K v)) :=
  h.2.2 (i, trV K v) ((Lp_iff L 0 _).mpr ⟨i, v, hv, by rw [Nat.zero_add]⟩)
theorem lv_mono {ls : Array Slot} {nL : Nat} {l l' : List (Nat × Value)} (h : lv_has ls nL l) (hs : ∀ q ∈ l', q ∈ l) : lv_has ls nL l' := ⟨h.1, h.2.1, fun q hq => h.2.2 q (hs q hq)⟩
def subL : List (Option Value) → List (Option Value) → Prop
  | [], _ => True
  | none :: t', _ :: t => subL t' t
  | some v :: t', w :: t => w = some v ∧ subL t' t
  | _ :: _, [] => False
theorem subL_at : ∀ (L' L : List (Option Value)), subL L' L → ∀ (k : Nat) (v : Value), L'[k]? = some (some v) → L[k]? = some (some v)
  | [], _, _, k, v, h => by simp at h
  | none :: t', _ :: t, hs, k, v, h => by
    cases k with
    | zero => simp at h
    | succ k => simpa using subL_at t' t hs k v (by simpa using h)
  | some w :: t', u :: t, hs, k, v, h => by
    cases k with
    | zero => simp at h; subst h; simpa using hs.1
    | succ k => simpa using subL_at t' t hs.2 k v (by simpa using h)
  | none :: _, [], hs, _, _, _ => absurd hs (by simp [subL])
  | some _ :: _, [], hs, _, _, _ => absurd hs (by simp [subL])
theorem lvs.sub {K : KK} {ls : Array Slot} {nL : Nat} {L L' : List (Option Value)} (h : lvs K ls nL L) (hs : subL L' L) : lvs K ls nL L' :=
  lv_mono h (fun q hq => by
    obtain ⟨k, v, h1, h2⟩ := (Lp_iff L' 0 q).mp hq
    exact (Lp_iff L 0 q).mpr ⟨k, v, subL_at L' L hs k v h1, h2⟩)
def okS (L : List (Option Value)) (i : Nat) : Bool := match i with
  | 0 => true
  | j + 1 => match L[j]? with
    | some (some w) => w.category == 1
    | _ => true
theorem okS_of {L : List (Option Value)} {i k : Nat} {v : Value} (h : okS L i = true) (hk : L[k]? = some (some v)) (hi : k + 1 = i) : v.category = 1 := by
  subst hi
  simp only [okS, hk] at h
  simpa using h
theorem st1 {K : KK} {L : List (Option Value)} {i : Nat} {v : Value} (hok : okS L i = true) : ∀ q ∈ Lp K 0 (L.set i (some v)), q ∈ (i, trV K v) :: (Lp K 0 L).filter (fun q => !(q.1 == i) && !(q.1 + 1 == i && q.2.category == 2)) := by
  intro q hq
  obtain ⟨k, w, h1, h2⟩ := (Lp_iff _ 0 q).mp hq
  rw [Nat.zero_add] at h2
  by_cases hk : k = i
  · subst hk
    rw [List.getElem?_set_self (by have := (List.getElem?_eq_some_iff.mp h1).1; simpa using this)] at h1
    cases h1
    rw [h2]; exact List.mem_cons_self
  · rw [List.getElem?_set_ne (Ne.symm hk)] at h1
    refine List.mem_cons_of_mem _ (List.mem_filter.mpr ⟨(Lp_iff L 0 q).mpr ⟨k, w, h1, by rw [Nat.zero_add]; exact h2⟩, ?_⟩)
    rw [h2]
    simp only [Bool.and_eq_true, Bool.not_eq_true', beq_eq_false_iff_ne, ne_eq, Bool.and_eq_false_iff]
    refine ⟨hk, ?_⟩
    by_cases h5 : k + 1 = i
    · right; rw [trV_cat, okS_of hok h1 h5]; decide
    · left; exact h5
theorem st2 {K : KK} {L : List (Option Value)} {i : Nat} {v : Value} (hok : okS L i = true) : ∀ q ∈ Lp K 0 ((L.set i (some v)).set (i + 1) none), q ∈ (i, trV K v) :: (Lp K 0 L).filter (fun q => !(q.1 == i) && (!(q.1 == i + 1) && !(q.1 + 1 == i && q.2.category == 2))) := by
  intro q hq
  obtain ⟨k, w, h1, h2⟩ := (Lp_iff _ 0 q).mp hq
  rw [Nat.zero_add] at h2
  by_cases hk1 : k = i + 1
  · subst hk1
    rw [List.getElem?_set_self (by have := (List.getElem?_eq_some_iff.mp h1).1; simpa using this)] at h1
    cases h1
  · rw [List.getElem?_set_ne (Ne.symm hk1)] at h1
    by_cases hk : k = i
    · subst hk
      rw [List.getElem?_set_self (by have := (List.getElem?_eq_some_iff.mp h1).1; simpa using this)] at h1
      cases h1
      rw [h2]; exact List.mem_cons_self
    · rw [List.getElem?_set_ne (Ne.symm hk)] at h1
      refine List.mem_cons_of_mem _ (List.mem_filter.mpr ⟨(Lp_iff L 0 q).mpr ⟨k, w, h1, by rw [Nat.zero_add]; exact h2⟩, ?_⟩)
      rw [h2]
      simp only [Bool.and_eq_true, Bool.not_eq_true', beq_eq_false_iff_ne, ne_eq, Bool.and_eq_false_iff]
      refine ⟨hk, hk1, ?_⟩
      by_cases h5 : k + 1 = i
      · right; rw [trV_cat, okS_of hok h1 h5]; decide
      · left; exact h5
end
section
/-! the judgement: from here the machine comes to an end that 'out' describes, if 'o' is 'out' -/
abbrev PZT : Type := Out → List Frame → Array Value → State → State → Prop
def JO (K : KK) (own : String) (cc : ByteArray) (nL : Nat) (ret : Option FieldType) (R : Room) (kc ns : Nat) (PZ : PZT) (pc : Nat) (L : List (Option Value)) (S : List Value) (X : HI) (Y : HL) (o : Option Out) : Prop :=
  ∀ out, o = some out → ∀ (p : Program) (l : Launch) (e : Env) (s : State) (m : MethodId) (args : Array Value) (below : List Frame) (meth : Method) (c : Code) (H : Heap) (locs : List Loc) (ls : Array Slot),
    Cx K own cc nL ret p s m args meth c → va_P (kD K) classes (wsOf K X Y) H → va_S (kA K) s.heap H locs → lvs K ls nL L →
    W p l e R s m args below meth c H locs kc ns (PZ out below args s) (F0 m pc ls (S.map (trV K)))
def QcO (K : KK) (out : Out) : Array Value → State → Outcome → State → Prop := fun _ st o t => (o = .returned (out.1.map (trV K)) ∧ va_P (kD K) classes (wsOf K out.2.1 out.2.2) t.heap) ∧ va_F (kA K) st t
def MZ (K : KK) : PZT := fun out below args s => MQ below (QcO K out) args s 0 0 (kA K)
def Pk (K : KK) (X : HI) (Y : HL) : State → Prop := fun U => va_P (kD K) classes (wsOf K X Y) U.heap ∧ va_K (kD K) classes (kT K) U ∧ kN U ∧ kSt K U
/-- a method's contract: if 'o' is 'out', it ends so -/
def CT (K : KK) (y : MethodName) (bytes : ByteArray) (maxL : Nat) (ret : Option FieldType) (rm : Room) (av : List Value) (X : HI) (Y : HL) (o : Option Out) : Prop :=
  ∀ out, o = some out → ∀ l : Launch, Met l y (.code y bytes maxL ret :: gw) rm (va_Pc (av.map (trV K)) (Pk K X Y)) (QcO K out) 0 0 (kA K)
def eL : List Value → List (Option Value)
  | [] => []
  | v :: t => if v.category = 2 then some v :: none :: eL t else some v :: eL t
theorem eL_args (K : KK) : ∀ (av : List Value) (i : Nat) (q : Nat × Value), q ∈ Lp K i (eL av) → q ∈ lv_args i (av.map (trV K))
  | [], i, q, h => by simp [eL, Lp] at h
  | v :: t, i, q, h => by
    rw [List.map_cons, lv_args, trV_cat]
    by_cases hc : v.category = 2
    · rw [eL, if_pos hc, Lp, Lp] at h
      rw [if_pos hc]
      rcases List.mem_cons.mp h with h | h
      · rw [h]; exact List.mem_cons_self
      · exact List.mem_cons_of_mem _ (eL_args K t (i + 2) q h)
    · rw [eL, if_neg hc, Lp] at h
      rw [if_neg hc]
      rcases List.mem_cons.mp h with h | h
      · rw [h]; exact List.mem_cons_self
      · exact List.mem_cons_of_mem _ (eL_args K t (i + 1) q h)
theorem ct_of {K : KK} (hK : kOK K) {y : MethodName} {bytes : ByteArray} {maxL : Nat} {ret : Option FieldType} {rm : Room} {av : List Value} {X : HI} {Y : HL} {o : Option Out} {L : List (Option Value)} (hy : plainName y.cls = true)
    (hL : subL L (eL av)) (hn : ((av.map (fun v => v.category)).sum ≤ maxL)) (h : JO K y.cls bytes maxL ret rm 0 0 (MZ K) 0 L [] X Y o) : CT K y bytes maxL ret rm av X Y o := by
  intro out ho l
  refine Met.ofW (cc := bytes) (maxL := maxL) (ret := ret) hy rfl ?_
  intro p e s m args below meth c s₁ B hml hv
  obtain ⟨rfl, hP, hKa, hN, hSt⟩ := hv
  have hts := atoms_spec (ws := .code y bytes maxL ret :: gw) B.pre
  have hown : s.vm.findClass y.cls = some m.cls := findClass_of_methodNamed B.named
  have hlen : ∀ vs : List Value, (lg_sl vs).length = (vs.map (fun v => v.category)).sum := by
    intro vs
    induction vs with
    | nil => rfl
    | cons v t ih =>
      have e : lg_sl (v :: t) = (if v.category = 2 then [.val v, .second] else [.val v]) ++ lg_sl t := rfl
      rw [e, List.length_append, ih, List.map_cons, List.sum_cons]
      rcases lv_cat v with q | q <;> simp [q]
  have hcat : ((av.map (trV K)).map (fun v => v.category)).sum = (av.map (fun v => v.category)).sum := by
    rw [List.map_map]
    congr 1
    apply List.map_congr_left
    intro v _
    exact trV_cat K v
  have hl := lv_entry (av.map (trV K)) (n := maxL) (by rw [hlen, hcat]; exact hn)
  rw [lg_entry_eq]
  have hl2 : lvs K _ maxL (eL av) := lv_mono hl (fun q hq => eL_args K av 0 q hq)
  exact h out ho p l e s m _ below meth c s.heap [] _ ⟨B.exec, B.bytes, B.returns, hml, hown, fun w hw => hts w (List.mem_cons_of_mem _ hw), B.notSynchronized, hKa, hK, hN, hSt⟩ hP va_S.rf (hl2.sub hL)
-- the words of o
def gd (b : Bool) (o : Option Out) : Option Out := match b with
  | true => o
  | false => none
def wr (b : Bool) (X : HI) (k : HI → Option Out) : Option Out := match b with
  | true => k X
  | false => none
def lt (v : Int32) (k : Int32 → Option Out) : Option Out := k v
def ltl (v : Int64) (k : Int64 → Option Out) : Option Out := k v
def lh (X : HI) (k : HI → Option Out) : Option Out := k X
def lhY (Y : HL) (k : HL → Option Out) : Option Out := k Y
def bi (o : Option Out) (k : Int32 → HI → HL → Option Out) : Option Out := match o with
  | some (some (.int r), X, Y) => k r X Y
  | _ => none
def bl (o : Option Out) (k : Int64 → HI → HL → Option Out) : Option Out := match o with
  | some (some (.long r), X, Y) => k r X Y
  | _ => none
def bv (o : Option Out) (k : HI → HL → Option Out) : Option Out := match o with
  | some (none, X, Y) => k X Y
  | _ => none
def br (n : Nat) (o : Option Out) (k : HI → HL → Option Out) : Option Out := match o with
  | some (some (.ref a), X, Y) => if a = n then k X Y else none
  | _ => none
def rI (v : Int32) (X : HI) (Y : HL) : Option Out := some (some (.int v), X, Y)
def rL (v : Int64) (X : HI) (Y : HL) : Option Out := some (some (.long v), X, Y)
def rR (v : Nat) (X : HI) (Y : HL) : Option Out := some (some (.ref v), X, Y)
def rV (X : HI) (Y : HL) : Option Out := some (none, X, Y)
def ixb (i : Int32) (n : Nat) : Bool := decide (0 ≤ i.toInt) && decide (i.toInt < n)
theorem ixb_in {i : Int32} {n : Nat} (h : ixb i n = true) : vp_in i n := by
  rw [vp_in_iff]
  simpa [ixb] using h
def nzb (i : Int32) : Bool := !(decide (i = 0))
def nzl (i : Int64) : Bool := !(decide (i = 0))
section JR
variable {K : KK} {own : String} {cc : ByteArray} {nL : Nat} {ret : Option FieldType} {R : Room} {kc ns : Nat} {PZ : PZT} {pc q : Nat} {L L' : List (Option Value)} {S : List Value} {X : HI} {Y : HL} {o o1 o2 : Option Out}
theorem j_none : JO K own cc nL ret R kc ns PZ pc L S X Y none := fun out h => by cases h
theorem j_sub (hs : subL L' L) (h : JO K own cc nL ret R kc ns PZ pc L' S X Y o) : JO K own cc nL ret R kc ns PZ pc L S X Y o :=
  fun out ho p l e s m args below meth c H locs ls C hP hS hl => h out ho p l e s m args below meth c H locs ls C hP hS (hl.sub hs)
theorem j_ite {c : Prop} [Decidable c] (h1 : c → JO K own cc nL ret R kc ns PZ pc L S X Y o1) (h2 : ¬ c → JO K own cc nL ret R kc ns PZ pc L S X Y o2) : JO K own cc nL ret R kc ns PZ pc L S X Y (if c then o1 else o2) := by
  by_cases hc : c
  · rw [if_pos hc]; exact h1 hc
  · rw [if_neg hc]; exact h2 hc
theorem j_iconst {n : Int} {v : Int32} (hd : decode cc pc = .ok (.iconst n, 1)) (hv : Int32.ofInt n = v) (hq : pc + 1 = q) (h : JO K own cc nL ret R kc ns PZ q L (.int v :: S) X Y o) : JO K own cc nL ret R kc ns PZ pc L S X Y o :=
  fun out ho p l e s m args below meth c H locs ls C hP hS hl => lv_iconst C.ex C.co hd hv (by subst hq; exact h out ho p l e s m args below meth c H locs ls C hP hS hl)
theorem j_bipush {n : Int} {v : Int32} (hd : decode cc pc = .ok (.bipush n, 2)) (hv : (Int8.ofInt n).toInt32 = v) (hq : pc + 2 = q) (h : JO K own cc nL ret R kc ns PZ q L (.int v :: S) X Y o) : JO K own cc nL ret R kc ns PZ pc L S X Y o :=
  fun out ho p l e s m args below meth c H locs ls C hP hS hl => lv_bipush C.ex C.co hd hv (by subst hq; exact h out ho p l e s m args below meth c H locs ls C hP hS hl)
theorem j_sipush {n : Int} {v : Int32} (hd : decode cc pc = .ok (.sipush n, 3)) (hv : (Int16.ofInt n).toInt32 = v) (hq : pc + 3 = q) (h : JO K own cc nL ret R kc ns PZ q L (.int v :: S) X Y o) : JO K own cc nL ret R kc ns PZ pc L S X Y o :=
  fun out ho p l e s m args below meth c H locs ls C hP hS hl => lv_sipush C.ex C.co hd hv (by subst hq; exact h out ho p l e s m args below meth c H locs ls C hP hS hl)
theorem j_lconst {n : Fin 2} {v : Int64} (hd : decode cc pc = .ok (.lconst n, 1)) (hv : Int64.ofNat (n : Nat) = v) (hq : pc + 1 = q) (h : JO K own cc nL ret R kc ns PZ q L (.long v :: S) X Y o) : JO K own cc nL ret R kc ns PZ pc L S X Y o :=
  fun out ho p l e s m args below meth c H locs ls C hP hS hl => lv_lconst C.ex C.co hd hv (by subst hq; exact h out ho p l e s m args below meth c H locs ls C hP hS hl)
theorem j_ldcw {index : Nat} {v : Int32} (hd : decode cc pc = .ok (.ldc_w index, 3)) (hw : Cond.constant own index v ∈ gw) (hq : pc + 3 = q) (h : JO K own cc nL ret R kc ns PZ q L (.int v :: S) X Y o) : JO K own cc nL ret R kc ns PZ pc L S X Y o :=
  fun out ho p l e s m args below meth c H locs ls C hP hS hl => lv_ldcw C.ex C.co C.ow (C.ts _ hw) hd (by subst hq; exact h out ho p l e s m args below meth c H locs ls C hP hS hl)
theorem j_ldc2 {index : Nat} {v : Int64} (hd : decode cc pc = .ok (.ldc2_w index, 3)) (hw : Cond.constantLong own index v ∈ gw) (hq : pc + 3 = q) (h : JO K own cc nL ret R kc ns PZ q L (.long v :: S) X Y o) : JO K own cc nL ret R kc ns PZ pc L S X Y o :=
  fun out ho p l e s m args below meth c H locs ls C hP hS hl => lv_ldc2 C.ex C.co C.ow (C.ts _ hw) hd (by subst hq; exact h out ho p l e s m args below meth c H locs ls C hP hS hl)
theorem j_iload_n {k : Fin 4} {i : Nat} {x : Int32} (hd : decode cc pc = .ok (.iload_n k, 1)) (hi : (k : Nat) = i) (hl0 : L[i]? = some (some (.int x))) (hq : pc + 1 = q) (h : JO K own cc nL ret R kc ns PZ q L (.int x :: S) X Y o) : JO K own cc nL ret R kc ns PZ pc L S X Y o :=
  fun out ho p l e s m args below meth c H locs ls C hP hS hl => lv_iload_n C.ex C.co hd hi (hl.at hl0) (by subst hq; exact h out ho p l e s m args below meth c H locs ls C hP hS hl)
theorem j_iload {i : Nat} {x : Int32} (hd : decode cc pc = .ok (.iload i, 2)) (hl0 : L[i]? = some (some (.int x))) (hq : pc + 2 = q) (h : JO K own cc nL ret R kc ns PZ q L (.int x :: S) X Y o) : JO K own cc nL ret R kc ns PZ pc L S X Y o :=
  fun out ho p l e s m args below meth c H locs ls C hP hS hl => lv_iload C.ex C.co hd (hl.at hl0) (by subst hq; exact h out ho p l e s m args below meth c H locs ls C hP hS hl)
theorem j_lload_n {k : Fin 4} {i : Nat} {x : Int64} (hd : decode cc pc = .ok (.lload_n k, 1)) (hi : (k : Nat) = i) (hl0 : L[i]? = some (some (.long x))) (hq : pc + 1 = q) (h : JO K own cc nL ret R kc ns PZ q L (.long x :: S) X Y o) : JO K own cc nL ret R kc ns PZ pc L S X Y o :=
  fun out ho p l e s m args below meth c H locs ls C hP hS hl => lv_lload_n C.ex C.co hd hi (hl.at hl0) (by subst hq; exact h out ho p l e s m args below meth c H locs ls C hP hS hl)
theorem j_lload {i : Nat} {x : Int64} (hd : decode cc pc = .ok (.lload i, 2)) (hl0 : L[i]? = some (some (.long x))) (hq : pc + 2 = q) (h : JO K own cc nL ret R kc ns PZ q L (.long x :: S) X Y o) : JO K own cc nL ret R kc ns PZ pc L S X Y o :=
  fun out ho p l e s m args below meth c H locs ls C hP hS hl => lv_lload C.ex C.co hd (hl.at hl0) (by subst hq; exact h out ho p l e s m args below meth c H locs ls C hP hS hl)
theorem j_aload_n {k : Fin 4} {i : Nat} {x : Nat} (hd : decode cc pc = .ok (.aload_n k, 1)) (hi : (k : Nat) = i) (hl0 : L[i]? = some (some (.ref x))) (hq : pc + 1 = q) (h : JO K own cc nL ret R kc ns PZ q L (.ref x :: S) X Y o) : JO K own cc nL ret R kc ns PZ pc L S X Y o :=
  fun out ho p l e s m args below meth c H locs ls C hP hS hl => lv_aload_n C.ex C.co hd hi (hl.at hl0) (by subst hq; exact h out ho p l e s m args below meth c H locs ls C hP hS hl)
theorem j_aload {i : Nat} {x : Nat} (hd : decode cc pc = .ok (.aload i, 2)) (hl0 : L[i]? = some (some (.ref x))) (hq : pc + 2 = q) (h : JO K own cc nL ret R kc ns PZ q L (.ref x :: S) X Y o) : JO K own cc nL ret R kc ns PZ pc L S X Y o :=
  fun out ho p l e s m args below meth c H locs ls C hP hS hl => lv_aload C.ex C.co hd (hl.at hl0) (by subst hq; exact h out ho p l e s m args below meth c H locs ls C hP hS hl)
theorem j_istore_n {k : Fin 4} {i : Nat} {x : Int32} (hd : decode cc pc = .ok (.istore_n k, 1)) (hi : (k : Nat) = i) (hn : i < nL) (hok : okS L i = true) (hL : L.set i (some (.int x)) = L') (hq : pc + 1 = q) (h : JO K own cc nL ret R kc ns PZ q L' S X Y o) : JO K own cc nL ret R kc ns PZ pc L (.int x :: S) X Y o :=
  fun out ho p l e s m args below meth c H locs ls C hP hS hl => lv_istore_n C.ex C.co hd hi hl hn rfl (fun ls' hl' => by subst hq; subst hL; exact h out ho p l e s m args below meth c H locs ls' C hP hS (lv_mono hl' (st1 hok)))
theorem j_istore {i : Nat} {x : Int32} (hd : decode cc pc = .ok (.istore i, 2)) (hn : i < nL) (hok : okS L i = true) (hL : L.set i (some (.int x)) = L') (hq : pc + 2 = q) (h : JO K own cc nL ret R kc ns PZ q L' S X Y o) : JO K own cc nL ret R kc ns PZ pc L (.int x :: S) X Y o :=
  fun out ho p l e s m args below meth c H locs ls C hP hS hl => lv_istore C.ex C.co hd hl hn rfl (fun ls' hl' => by subst hq; subst hL; exact h out ho p l e s m args below meth c H locs ls' C hP hS (lv_mono hl' (st1 hok)))
theorem j_astore_n {k : Fin 4} {i : Nat} {x : Nat} (hd : decode cc pc = .ok (.astore_n k, 1)) (hi : (k : Nat) = i) (hn : i < nL) (hok : okS L i = true) (hL : L.set i (some (.ref x)) = L') (hq : pc + 1 = q) (h : JO K own cc nL ret R kc ns PZ q L' S X Y o) : JO K own cc nL ret R kc ns PZ pc L (.ref x :: S) X Y o :=
  fun out ho p l e s m args below meth c H locs ls C hP hS hl => lv_astore_n C.ex C.co hd hi hl hn rfl (fun ls' hl' => by subst hq; subst hL; exact h out ho p l e s m args below meth c H locs ls' C hP hS (lv_mono hl' (st1 (v := .ref x) hok)))
theorem j_astore {i : Nat} {x : Nat} (hd : decode cc pc = .ok (.astore i, 2)) (hn : i < nL) (hok : okS L i = true) (hL : L.set i (some (.ref x)) = L') (hq : pc + 2 = q) (h : JO K own cc nL ret R kc ns PZ q L' S X Y o) : JO K own cc nL ret R kc ns PZ pc L (.ref x :: S) X Y o :=
  fun out ho p l e s m args below meth c H locs ls C hP hS hl => lv_astore C.ex C.co hd hl hn rfl (fun ls' hl' => by subst hq; subst hL; exact h out ho p l e s m args below meth c H locs ls' C hP hS (lv_mono hl' (st1 (v := .ref x) hok)))
theorem j_lstore_n {k : Fin 4} {i : Nat} {x : Int64} (hd : decode cc pc = .ok (.lstore_n k, 1)) (hi : (k : Nat) = i) (hn : i + 1 < nL) (hok : okS L i = true) (hL : (L.set i (some (.long x))).set (i + 1) none = L') (hq : pc + 1 = q) (h : JO K own cc nL ret R kc ns PZ q L' S X Y o) : JO K own cc nL ret R kc ns PZ pc L (.long x :: S) X Y o :=
  fun out ho p l e s m args below meth c H locs ls C hP hS hl => lv_lstore_n C.ex C.co hd hi hl hn rfl (fun ls' hl' => by subst hq; subst hL; exact h out ho p l e s m args below meth c H locs ls' C hP hS (lv_mono hl' (st2 hok)))
theorem j_iinc {i : Nat} {n : Int} {x d : Int32} (hd : decode cc pc = .ok (.iinc i n, 3)) (hl0 : L[i]? = some (some (.int x))) (hv : Int32.ofInt n = d) (hn : i < nL) (hok : okS L i = true) (hL : L.set i (some (.int (x + d))) = L') (hq : pc + 3 = q) (h : JO K own cc nL ret R kc ns PZ q L' S X Y o) : JO K own cc nL ret R kc ns PZ pc L S X Y o := by
  intro out ho p l e s m args below meth c H locs ls C hP hS hl
  have hm : (i, Value.int x) ∈ Lp K 0 L := (Lp_iff L 0 _).mpr ⟨i, .int x, hl0, by rw [Nat.zero_add]; rfl⟩
  obtain ⟨k, hk⟩ := List.getElem?_of_mem hm
  exact lv_iinc (v := x + d) C.ex C.co hd hl hk (by rw [hv]) hn rfl (fun ls' hl' => by subst hq; subst hL; exact h out ho p l e s m args below meth c H locs ls' C hP hS (lv_mono hl' (st1 hok)))
-- names for what is stored
theorem j_lt {v : Int32} {k : Int32 → Option Out} (h : ∀ x, JO K own cc nL ret R kc ns PZ pc L (.int x :: S) X Y (k x)) : JO K own cc nL ret R kc ns PZ pc L (.int v :: S) X Y (lt v k) := h v
theorem j_ltl {v : Int64} {k : Int64 → Option Out} (h : ∀ x, JO K own cc nL ret R kc ns PZ pc L (.long x :: S) X Y (k x)) : JO K own cc nL ret R kc ns PZ pc L (.long v :: S) X Y (ltl v k) := h v
theorem j_idiv {x y : Int32} (hd : decode cc pc = .ok (.idiv, 1)) (hq : pc + 1 = q) (h : JO K own cc nL ret R kc ns PZ q L (.int (x / y) :: S) X Y o) : JO K own cc nL ret R kc ns PZ pc L (.int y :: .int x :: S) X Y (gd (nzb y) o) := by
  intro out ho p l e s m args below meth c H locs ls C hP hS hl
  cases hb : nzb y with
  | false => rw [hb] at ho; cases ho
  | true =>
    rw [hb] at ho
    exact lv_idiv C.ex C.co hd (by simpa [nzb] using hb) (by subst hq; exact h out ho p l e s m args below meth c H locs ls C hP hS hl)
theorem j_irem {x y : Int32} (hd : decode cc pc = .ok (.irem, 1)) (hq : pc + 1 = q) (h : JO K own cc nL ret R kc ns PZ q L (.int (x - x / y * y) :: S) X Y o) : JO K own cc nL ret R kc ns PZ pc L (.int y :: .int x :: S) X Y (gd (nzb y) o) := by
  intro out ho p l e s m args below meth c H locs ls C hP hS hl
  cases hb : nzb y with
  | false => rw [hb] at ho; cases ho
  | true =>
    rw [hb] at ho
    exact lv_irem C.ex C.co hd (by simpa [nzb] using hb) (by subst hq; exact h out ho p l e s m args below meth c H locs ls C hP hS hl)
theorem j_ldiv {x y : Int64} (hd : decode cc pc = .ok (.ldiv, 1)) (hq : pc + 1 = q) (h : JO K own cc nL ret R kc ns PZ q L (.long (x / y) :: S) X Y o) : JO K own cc nL ret R kc ns PZ pc L (.long y :: .long x :: S) X Y (gd (nzl y) o) := by
  intro out ho p l e s m args below meth c H locs ls C hP hS hl
  cases hb : nzl y with
  | false => rw [hb] at ho; cases ho
  | true =>
    rw [hb] at ho
    exact lv_ldiv C.ex C.co hd (by simpa [nzl] using hb) (by subst hq; exact h out ho p l e s m args below meth c H locs ls C hP hS hl)
theorem j_lrem {x y : Int64} (hd : decode cc pc = .ok (.lrem, 1)) (hq : pc + 1 = q) (h : JO K own cc nL ret R kc ns PZ q L (.long (x - x / y * y) :: S) X Y o) : JO K own cc nL ret R kc ns PZ pc L (.long y :: .long x :: S) X Y (gd (nzl y) o) := by
  intro out ho p l e s m args below meth c H locs ls C hP hS hl
  cases hb : nzl y with
  | false => rw [hb] at ho; cases ho
  | true =>
    rw [hb] at ho
    exact lv_lrem C.ex C.co hd (by simpa [nzl] using hb) (by subst hq; exact h out ho p l e s m args below meth c H locs ls C hP hS hl)
theorem j_iadd {x y : Int32} (hd : decode cc pc = .ok (.iadd, 1)) (hq : pc + 1 = q) (h : JO K own cc nL ret R kc ns PZ q L (.int (x + y) :: S) X Y o) : JO K own cc nL ret R kc ns PZ pc L (.int y :: .int x :: S) X Y o :=
  fun out ho p l e s m args below meth c H locs ls C hP hS hl => lv_iadd C.ex C.co hd (by subst hq; exact h out ho p l e s m args below meth c H locs ls C hP hS hl)
theorem j_isub {x y : Int32} (hd : decode cc pc = .ok (.isub, 1)) (hq : pc + 1 = q) (h : JO K own cc nL ret R kc ns PZ q L (.int (x - y) :: S) X Y o) : JO K own cc nL ret R kc ns PZ pc L (.int y :: .int x :: S) X Y o :=
  fun out ho p l e s m args below meth c H locs ls C hP hS hl => lv_isub C.ex C.co hd (by subst hq; exact h out ho p l e s m args below meth c H locs ls C hP hS hl)
theorem j_imul {x y : Int32} (hd : decode cc pc = .ok (.imul, 1)) (hq : pc + 1 = q) (h : JO K own cc nL ret R kc ns PZ q L (.int (x * y) :: S) X Y o) : JO K own cc nL ret R kc ns PZ pc L (.int y :: .int x :: S) X Y o :=
  fun out ho p l e s m args below meth c H locs ls C hP hS hl => lv_imul C.ex C.co hd (by subst hq; exact h out ho p l e s m args below meth c H locs ls C hP hS hl)
theorem j_iand {x y : Int32} (hd : decode cc pc = .ok (.iand, 1)) (hq : pc + 1 = q) (h : JO K own cc nL ret R kc ns PZ q L (.int (x &&& y) :: S) X Y o) : JO K own cc nL ret R kc ns PZ pc L (.int y :: .int x :: S) X Y o :=
  fun out ho p l e s m args below meth c H locs ls C hP hS hl => lv_iand C.ex C.co hd (by subst hq; exact h out ho p l e s m args below meth c H locs ls C hP hS hl)
theorem j_ior {x y : Int32} (hd : decode cc pc = .ok (.ior, 1)) (hq : pc + 1 = q) (h : JO K own cc nL ret R kc ns PZ q L (.int (x ||| y) :: S) X Y o) : JO K own cc nL ret R kc ns PZ pc L (.int y :: .int x :: S) X Y o :=
  fun out ho p l e s m args below meth c H locs ls C hP hS hl => lv_ior C.ex C.co hd (by subst hq; exact h out ho p l e s m args below meth c H locs ls C hP hS hl)
theorem j_ixor {x y : Int32} (hd : decode cc pc = .ok (.ixor, 1)) (hq : pc + 1 = q) (h : JO K own cc nL ret R kc ns PZ q L (.int (x ^^^ y) :: S) X Y o) : JO K own cc nL ret R kc ns PZ pc L (.int y :: .int x :: S) X Y o :=
  fun out ho p l e s m args below meth c H locs ls C hP hS hl => lv_ixor C.ex C.co hd (by subst hq; exact h out ho p l e s m args below meth c H locs ls C hP hS hl)
theorem j_ishl {x y : Int32} (hd : decode cc pc = .ok (.ishl, 1)) (hq : pc + 1 = q) (h : JO K own cc nL ret R kc ns PZ q L (.int (x <<< (y &&& 31)) :: S) X Y o) : JO K own cc nL ret R kc ns PZ pc L (.int y :: .int x :: S) X Y o :=
  fun out ho p l e s m args below meth c H locs ls C hP hS hl => lv_ishl C.ex C.co hd (by subst hq; exact h out ho p l e s m args below meth c H locs ls C hP hS hl)
theorem j_ishr {x y : Int32} (hd : decode cc pc = .ok (.ishr, 1)) (hq : pc + 1 = q) (h : JO K own cc nL ret R kc ns PZ q L (.int (x >>> (y &&& 31)) :: S) X Y o) : JO K own cc nL ret R kc ns PZ pc L (.int y :: .int x :: S) X Y o :=
  fun out ho p l e s m args below meth c H locs ls C hP hS hl => lv_ishr C.ex C.co hd (by subst hq; exact h out ho p l e s m args below meth c H locs ls C hP hS hl)
theorem j_iushr {x y : Int32} (hd : decode cc pc = .ok (.iushr, 1)) (hq : pc + 1 = q) (h : JO K own cc nL ret R kc ns PZ q L (.int ((x.toUInt32 >>> (y.toUInt32 &&& Int32.toUInt32 31)).toInt32) :: S) X Y o) : JO K own cc nL ret R kc ns PZ pc L (.int y :: .int x :: S) X Y o :=
  fun out ho p l e s m args below meth c H locs ls C hP hS hl => lv_iushr C.ex C.co hd rfl (by subst hq; exact h out ho p l e s m args below meth c H locs ls C hP hS hl)
theorem j_ineg {x : Int32} (hd : decode cc pc = .ok (.ineg, 1)) (hq : pc + 1 = q) (h : JO K own cc nL ret R kc ns PZ q L (.int (-x) :: S) X Y o) : JO K own cc nL ret R kc ns PZ pc L (.int x :: S) X Y o :=
  fun out ho p l e s m args below meth c H locs ls C hP hS hl => lv_ineg C.ex C.co hd (by subst hq; exact h out ho p l e s m args below meth c H locs ls C hP hS hl)
theorem j_ladd {x y : Int64} (hd : decode cc pc = .ok (.ladd, 1)) (hq : pc + 1 = q) (h : JO K own cc nL ret R kc ns PZ q L (.long (x + y) :: S) X Y o) : JO K own cc nL ret R kc ns PZ pc L (.long y :: .long x :: S) X Y o :=
  fun out ho p l e s m args below meth c H locs ls C hP hS hl => lv_ladd C.ex C.co hd (by subst hq; exact h out ho p l e s m args below meth c H locs ls C hP hS hl)
theorem j_lsub {x y : Int64} (hd : decode cc pc = .ok (.lsub, 1)) (hq : pc + 1 = q) (h : JO K own cc nL ret R kc ns PZ q L (.long (x - y) :: S) X Y o) : JO K own cc nL ret R kc ns PZ pc L (.long y :: .long x :: S) X Y o :=
  fun out ho p l e s m args below meth c H locs ls C hP hS hl => lv_lsub C.ex C.co hd (by subst hq; exact h out ho p l e s m args below meth c H locs ls C hP hS hl)
theorem j_lmul {x y : Int64} (hd : decode cc pc = .ok (.lmul, 1)) (hq : pc + 1 = q) (h : JO K own cc nL ret R kc ns PZ q L (.long (x * y) :: S) X Y o) : JO K own cc nL ret R kc ns PZ pc L (.long y :: .long x :: S) X Y o :=
  fun out ho p l e s m args below meth c H locs ls C hP hS hl => lv_lmul C.ex C.co hd (by subst hq; exact h out ho p l e s m args below meth c H locs ls C hP hS hl)
theorem j_land {x y : Int64} (hd : decode cc pc = .ok (.land, 1)) (hq : pc + 1 = q) (h : JO K own cc nL ret R kc ns PZ q L (.long (x &&& y) :: S) X Y o) : JO K own cc nL ret R kc ns PZ pc L (.long y :: .long x :: S) X Y o :=
  fun out ho p l e s m args below meth c H locs ls C hP hS hl => lv_land C.ex C.co hd (by subst hq; exact h out ho p l e s m args below meth c H locs ls C hP hS hl)
theorem j_lor {x y : Int64} (hd : decode cc pc = .ok (.lor, 1)) (hq : pc + 1 = q) (h : JO K own cc nL ret R kc ns PZ q L (.long (x ||| y) :: S) X Y o) : JO K own cc nL ret R kc ns PZ pc L (.long y :: .long x :: S) X Y o :=
  fun out ho p l e s m args below meth c H locs ls C hP hS hl => lv_lor C.ex C.co hd (by subst hq; exact h out ho p l e s m args below meth c H locs ls C hP hS hl)
theorem j_lshl {x : Int64} {y : Int32} (hd : decode cc pc = .ok (.lshl, 1)) (hq : pc + 1 = q) (h : JO K own cc nL ret R kc ns PZ q L (.long (x <<< (y.toInt64 &&& 63)) :: S) X Y o) : JO K own cc nL ret R kc ns PZ pc L (.int y :: .long x :: S) X Y o :=
  fun out ho p l e s m args below meth c H locs ls C hP hS hl => lv_lshl C.ex C.co hd rfl (by subst hq; exact h out ho p l e s m args below meth c H locs ls C hP hS hl)
theorem j_lushr {x : Int64} {y : Int32} (hd : decode cc pc = .ok (.lushr, 1)) (hq : pc + 1 = q) (h : JO K own cc nL ret R kc ns PZ q L (.long ((x.toUInt64 >>> (y.toInt64.toUInt64 &&& Int64.toUInt64 63)).toInt64) :: S) X Y o) : JO K own cc nL ret R kc ns PZ pc L (.int y :: .long x :: S) X Y o :=
  fun out ho p l e s m args below meth c H locs ls C hP hS hl => lv_lushr C.ex C.co hd rfl (by subst hq; exact h out ho p l e s m args below meth c H locs ls C hP hS hl)
theorem j_i2l {x : Int32} (hd : decode cc pc = .ok (.i2l, 1)) (hq : pc + 1 = q) (h : JO K own cc nL ret R kc ns PZ q L (.long x.toInt64 :: S) X Y o) : JO K own cc nL ret R kc ns PZ pc L (.int x :: S) X Y o :=
  fun out ho p l e s m args below meth c H locs ls C hP hS hl => lv_i2l C.ex C.co hd rfl (by subst hq; exact h out ho p l e s m args below meth c H locs ls C hP hS hl)
theorem j_l2i {x : Int64} (hd : decode cc pc = .ok (.l2i, 1)) (hq : pc + 1 = q) (h : JO K own cc nL ret R kc ns PZ q L (.int x.toInt32 :: S) X Y o) : JO K own cc nL ret R kc ns PZ pc L (.long x :: S) X Y o :=
  fun out ho p l e s m args below meth c H locs ls C hP hS hl => lv_l2i C.ex C.co hd rfl (by subst hq; exact h out ho p l e s m args below meth c H locs ls C hP hS hl)
theorem j_lcmp {x y : Int64} (hd : decode cc pc = .ok (.lcmp, 1)) (hq : pc + 1 = q) (h : JO K own cc nL ret R kc ns PZ q L (.int (lg_cmp x y) :: S) X Y o) : JO K own cc nL ret R kc ns PZ pc L (.long y :: .long x :: S) X Y o :=
  fun out ho p l e s m args below meth c H locs ls C hP hS hl => W.lcmp C.ex C.co hd (by subst hq; exact h out ho p l e s m args below meth c H locs ls C hP hS hl)
theorem j_dup {v : Value} (hd : decode cc pc = .ok (.dup, 1)) (hv : v.category = 1) (hq : pc + 1 = q) (h : JO K own cc nL ret R kc ns PZ q L (v :: v :: S) X Y o) : JO K own cc nL ret R kc ns PZ pc L (v :: S) X Y o :=
  fun out ho p l e s m args below meth c H locs ls C hP hS hl => lv_dup C.ex C.co hd (by rw [trV_cat]; exact hv) (by subst hq; exact h out ho p l e s m args below meth c H locs ls C hP hS hl)
theorem j_dup2 {v w : Value} (hd : decode cc pc = .ok (.dup2, 1)) (hv : v.category = 1) (hw : w.category = 1) (hq : pc + 1 = q) (h : JO K own cc nL ret R kc ns PZ q L (v :: w :: v :: w :: S) X Y o) : JO K own cc nL ret R kc ns PZ pc L (v :: w :: S) X Y o :=
  fun out ho p l e s m args below meth c H locs ls C hP hS hl => lv_dup2_11 C.ex C.co hd (by rw [trV_cat]; exact hv) (by rw [trV_cat]; exact hw) (by subst hq; exact h out ho p l e s m args below meth c H locs ls C hP hS hl)
theorem j_pop {v : Value} (hd : decode cc pc = .ok (.pop, 1)) (hv : v.category = 1) (hq : pc + 1 = q) (h : JO K own cc nL ret R kc ns PZ q L S X Y o) : JO K own cc nL ret R kc ns PZ pc L (v :: S) X Y o :=
  fun out ho p l e s m args below meth c H locs ls C hP hS hl => lv_pop C.ex C.co hd (by rw [trV_cat]; exact hv) (by subst hq; exact h out ho p l e s m args below meth c H locs ls C hP hS hl)
theorem j_goto {off : Int} (hd : decode cc pc = .ok (.goto off, 3)) (hq : (pc : Int) + off = (q : Int)) (h : JO K own cc nL ret R kc ns PZ q L S X Y o) : JO K own cc nL ret R kc ns PZ pc L S X Y o :=
  fun out ho p l e s m args below meth c H locs ls C hP hS hl => lv_goto C.ex C.co hd hq (h out ho p l e s m args below meth c H locs ls C hP hS hl)
theorem j_if_eq {x : Int32} {off : Int} {t : Nat} (hd : decode cc pc = .ok (.ifCond .eq off, 3)) (ht : (pc : Int) + off = (t : Int)) (hq : pc + 3 = q) (h1 : JO K own cc nL ret R kc ns PZ t L S X Y o1) (h2 : JO K own cc nL ret R kc ns PZ q L S X Y o2) : JO K own cc nL ret R kc ns PZ pc L (.int x :: S) X Y (if x = 0 then o1 else o2) := by
  intro out ho p l e s m args below meth c H locs ls C hP hS hl
  subst hq
  exact lv_if_eq C.ex C.co hd ht (fun z => h1 out (by rw [if_pos z] at ho; exact ho) p l e s m args below meth c H locs ls C hP hS hl) (fun z => h2 out (by rw [if_neg z] at ho; exact ho) p l e s m args below meth c H locs ls C hP hS hl)
theorem j_icmp_eq {x y : Int32} {off : Int} {t : Nat} (hd : decode cc pc = .ok (.if_icmp .eq off, 3)) (ht : (pc : Int) + off = (t : Int)) (hq : pc + 3 = q) (h1 : JO K own cc nL ret R kc ns PZ t L S X Y o1) (h2 : JO K own cc nL ret R kc ns PZ q L S X Y o2) : JO K own cc nL ret R kc ns PZ pc L (.int y :: .int x :: S) X Y (if x = y then o1 else o2) := by
  intro out ho p l e s m args below meth c H locs ls C hP hS hl
  subst hq
  exact lv_icmp_eq C.ex C.co hd ht (fun z => h1 out (by rw [if_pos z] at ho; exact ho) p l e s m args below meth c H locs ls C hP hS hl) (fun z => h2 out (by rw [if_neg z] at ho; exact ho) p l e s m args below meth c H locs ls C hP hS hl)
theorem j_if_ne {x : Int32} {off : Int} {t : Nat} (hd : decode cc pc = .ok (.ifCond .ne off, 3)) (ht : (pc : Int) + off = (t : Int)) (hq : pc + 3 = q) (h1 : JO K own cc nL ret R kc ns PZ t L S X Y o1) (h2 : JO K own cc nL ret R kc ns PZ q L S X Y o2) : JO K own cc nL ret R kc ns PZ pc L (.int x :: S) X Y (if x = 0 then o2 else o1) := by
  intro out ho p l e s m args below meth c H locs ls C hP hS hl
  subst hq
  exact lv_if_ne C.ex C.co hd ht (fun z => h1 out (by rw [if_neg z] at ho; exact ho) p l e s m args below meth c H locs ls C hP hS hl) (fun z => h2 out (by rw [if_pos z] at ho; exact ho) p l e s m args below meth c H locs ls C hP hS hl)
theorem j_icmp_ne {x y : Int32} {off : Int} {t : Nat} (hd : decode cc pc = .ok (.if_icmp .ne off, 3)) (ht : (pc : Int) + off = (t : Int)) (hq : pc + 3 = q) (h1 : JO K own cc nL ret R kc ns PZ t L S X Y o1) (h2 : JO K own cc nL ret R kc ns PZ q L S X Y o2) : JO K own cc nL ret R kc ns PZ pc L (.int y :: .int x :: S) X Y (if x = y then o2 else o1) := by
  intro out ho p l e s m args below meth c H locs ls C hP hS hl
  subst hq
  exact lv_icmp_ne C.ex C.co hd ht (fun z => h1 out (by rw [if_neg z] at ho; exact ho) p l e s m args below meth c H locs ls C hP hS hl) (fun z => h2 out (by rw [if_pos z] at ho; exact ho) p l e s m args below meth c H locs ls C hP hS hl)
theorem j_if_lt {x : Int32} {off : Int} {t : Nat} (hd : decode cc pc = .ok (.ifCond .lt off, 3)) (ht : (pc : Int) + off = (t : Int)) (hq : pc + 3 = q) (h1 : JO K own cc nL ret R kc ns PZ t L S X Y o1) (h2 : JO K own cc nL ret R kc ns PZ q L S X Y o2) : JO K own cc nL ret R kc ns PZ pc L (.int x :: S) X Y (if x < 0 then o1 else o2) := by
  intro out ho p l e s m args below meth c H locs ls C hP hS hl
  subst hq
  exact lv_if_lt C.ex C.co hd ht (fun z => h1 out (by rw [if_pos z] at ho; exact ho) p l e s m args below meth c H locs ls C hP hS hl) (fun z => h2 out (by rw [if_neg z] at ho; exact ho) p l e s m args below meth c H locs ls C hP hS hl)
theorem j_icmp_lt {x y : Int32} {off : Int} {t : Nat} (hd : decode cc pc = .ok (.if_icmp .lt off, 3)) (ht : (pc : Int) + off = (t : Int)) (hq : pc + 3 = q) (h1 : JO K own cc nL ret R kc ns PZ t L S X Y o1) (h2 : JO K own cc nL ret R kc ns PZ q L S X Y o2) : JO K own cc nL ret R kc ns PZ pc L (.int y :: .int x :: S) X Y (if x < y then o1 else o2) := by
  intro out ho p l e s m args below meth c H locs ls C hP hS hl
  subst hq
  exact lv_icmp_lt C.ex C.co hd ht (fun z => h1 out (by rw [if_pos z] at ho; exact ho) p l e s m args below meth c H locs ls C hP hS hl) (fun z => h2 out (by rw [if_neg z] at ho; exact ho) p l e s m args below meth c H locs ls C hP hS hl)
theorem j_if_ge {x : Int32} {off : Int} {t : Nat} (hd : decode cc pc = .ok (.ifCond .ge off, 3)) (ht : (pc : Int) + off = (t : Int)) (hq : pc + 3 = q) (h1 : JO K own cc nL ret R kc ns PZ t L S X Y o1) (h2 : JO K own cc nL ret R kc ns PZ q L S X Y o2) : JO K own cc nL ret R kc ns PZ pc L (.int x :: S) X Y (if 0 ≤ x then o1 else o2) := by
  intro out ho p l e s m args below meth c H locs ls C hP hS hl
  subst hq
  exact lv_if_ge C.ex C.co hd ht (fun z => h1 out (by rw [if_pos z] at ho; exact ho) p l e s m args below meth c H locs ls C hP hS hl) (fun z => h2 out (by rw [if_neg z] at ho; exact ho) p l e s m args below meth c H locs ls C hP hS hl)
theorem j_icmp_ge {x y : Int32} {off : Int} {t : Nat} (hd : decode cc pc = .ok (.if_icmp .ge off, 3)) (ht : (pc : Int) + off = (t : Int)) (hq : pc + 3 = q) (h1 : JO K own cc nL ret R kc ns PZ t L S X Y o1) (h2 : JO K own cc nL ret R kc ns PZ q L S X Y o2) : JO K own cc nL ret R kc ns PZ pc L (.int y :: .int x :: S) X Y (if y ≤ x then o1 else o2) := by
  intro out ho p l e s m args below meth c H locs ls C hP hS hl
  subst hq
  exact lv_icmp_ge C.ex C.co hd ht (fun z => h1 out (by rw [if_pos z] at ho; exact ho) p l e s m args below meth c H locs ls C hP hS hl) (fun z => h2 out (by rw [if_neg z] at ho; exact ho) p l e s m args below meth c H locs ls C hP hS hl)
theorem j_if_gt {x : Int32} {off : Int} {t : Nat} (hd : decode cc pc = .ok (.ifCond .gt off, 3)) (ht : (pc : Int) + off = (t : Int)) (hq : pc + 3 = q) (h1 : JO K own cc nL ret R kc ns PZ t L S X Y o1) (h2 : JO K own cc nL ret R kc ns PZ q L S X Y o2) : JO K own cc nL ret R kc ns PZ pc L (.int x :: S) X Y (if 0 < x then o1 else o2) := by
  intro out ho p l e s m args below meth c H locs ls C hP hS hl
  subst hq
  exact lv_if_gt C.ex C.co hd ht (fun z => h1 out (by rw [if_pos z] at ho; exact ho) p l e s m args below meth c H locs ls C hP hS hl) (fun z => h2 out (by rw [if_neg z] at ho; exact ho) p l e s m args below meth c H locs ls C hP hS hl)
theorem j_icmp_gt {x y : Int32} {off : Int} {t : Nat} (hd : decode cc pc = .ok (.if_icmp .gt off, 3)) (ht : (pc : Int) + off = (t : Int)) (hq : pc + 3 = q) (h1 : JO K own cc nL ret R kc ns PZ t L S X Y o1) (h2 : JO K own cc nL ret R kc ns PZ q L S X Y o2) : JO K own cc nL ret R kc ns PZ pc L (.int y :: .int x :: S) X Y (if y < x then o1 else o2) := by
  intro out ho p l e s m args below meth c H locs ls C hP hS hl
  subst hq
  exact lv_icmp_gt C.ex C.co hd ht (fun z => h1 out (by rw [if_pos z] at ho; exact ho) p l e s m args below meth c H locs ls C hP hS hl) (fun z => h2 out (by rw [if_neg z] at ho; exact ho) p l e s m args below meth c H locs ls C hP hS hl)
theorem j_if_le {x : Int32} {off : Int} {t : Nat} (hd : decode cc pc = .ok (.ifCond .le off, 3)) (ht : (pc : Int) + off = (t : Int)) (hq : pc + 3 = q) (h1 : JO K own cc nL ret R kc ns PZ t L S X Y o1) (h2 : JO K own cc nL ret R kc ns PZ q L S X Y o2) : JO K own cc nL ret R kc ns PZ pc L (.int x :: S) X Y (if x ≤ 0 then o1 else o2) := by
  intro out ho p l e s m args below meth c H locs ls C hP hS hl
  subst hq
  exact lv_if_le C.ex C.co hd ht (fun z => h1 out (by rw [if_pos z] at ho; exact ho) p l e s m args below meth c H locs ls C hP hS hl) (fun z => h2 out (by rw [if_neg z] at ho; exact ho) p l e s m args below meth c H locs ls C hP hS hl)
theorem j_icmp_le {x y : Int32} {off : Int} {t : Nat} (hd : decode cc pc = .ok (.if_icmp .le off, 3)) (ht : (pc : Int) + off = (t : Int)) (hq : pc + 3 = q) (h1 : JO K own cc nL ret R kc ns PZ t L S X Y o1) (h2 : JO K own cc nL ret R kc ns PZ q L S X Y o2) : JO K own cc nL ret R kc ns PZ pc L (.int y :: .int x :: S) X Y (if x ≤ y then o1 else o2) := by
  intro out ho p l e s m args below meth c H locs ls C hP hS hl
  subst hq
  exact lv_icmp_le C.ex C.co hd ht (fun z => h1 out (by rw [if_pos z] at ho; exact ho) p l e s m args below meth c H locs ls C hP hS hl) (fun z => h2 out (by rw [if_neg z] at ho; exact ho) p l e s m args below meth c H locs ls C hP hS hl)
end JR
end
section
/-! fields, arrays, calls, ends -/
/-- a field of class ci, place k, as the entry 'index' of own's pool links it -/
def FK (own : String) (index ci k : Nat) : Prop := ∃ (C : String) (T : u_T) (N : Nat) (ty : Nat → FieldType), classes[ci]? = some (C, T, N) ∧ (∀ w ∈ u_ws C T N, w ∈ gw) ∧ (∀ k, k < N → parseFieldDescriptor (T k).2.2.1 = some (ty k)) ∧ (∀ a, a < N → ∀ b, b < N → a ≠ b → (T a).2.1 ≠ (T b).2.1) ∧ k < N ∧ (T k).1 = C ∧
  (Cond.fieldLink own index C (T k).2.1 (T k).2.2.1 ∈ gw ∨ ∃ host, Cond.fieldLinkNest own index C (T k).2.1 (T k).2.2.1 host ∈ nw)
/-- the same, of a field of whole numbers that isn't final -/
def FP (own : String) (index ci k : Nat) (ty : FieldType) : Prop := FK own index ci k ∧ ∀ q, classes[ci]? = some q → (q.2.1 k).2.2.2 = false ∧ parseFieldDescriptor (q.2.1 k).2.2.1 = some ty
def FV (X : HI) (Y : HL) (a ci k : Nat) (v : Value) : Prop := a < 86 ∧ kd a = (0, ci) ∧ (fB (X a) (Y a) a)[k]? = some v
def FW (a ci k : Nat) : Prop := a < 86 ∧ kd a = (0, ci) ∧ ∀ (x : Nat → Int32) (y : Int64) (v : Int32), fB (upd x k v) y a = (fB x y a).set k (.int v) ∧ k < (fB x y a).length
def FWL (a ci k : Nat) : Prop := a < 86 ∧ kd a = (0, ci) ∧ ∀ (x : Nat → Int32) (y v : Int64), fB x v a = (fB x y a).set k (.long v) ∧ k < (fB x y a).length
def AI (a n : Nat) : Prop := a < 86 ∧ kd a = (1, n)
def AZ (a n : Nat) : Prop := a < 86 ∧ kd a = (2, n)
def AR (a n : Nat) : Prop := a < 86 ∧ kd a = (3, n)
theorem map_set_tr (K : KK) (fs : List Value) (k : Nat) (v : Value) : (fs.set k v).map (trV K) = (fs.map (trV K)).set k (trV K v) := List.map_set
section JR2
variable {K : KK} {own : String} {cc : ByteArray} {nL : Nat} {ret : Option FieldType} {R : Room} {kc ns : Nat} {PZ : PZT} {pc q : Nat} {L L' : List (Option Value)} {S : List Value} {X : HI} {Y : HL} {o o1 o2 : Option Out}
theorem j_get {index ci k a : Nat} {v : Value} (hd : decode cc pc = .ok (.getfield index, 3)) (hf : FK own index ci k) (hv : FV X Y a ci k v) (hq : pc + 3 = q) (h : JO K own cc nL ret R kc ns PZ q L (v :: S) X Y o) : JO K own cc nL ret R kc ns PZ pc L (.ref a :: S) X Y o := by
  intro out ho p l e s m args below meth c H locs ls C hP hS hl
  obtain ⟨Cn, T, N, ty, f1, f2, f3, f4, f5, f6, f7⟩ := hf
  obtain ⟨v1, v2, v3⟩ := hv
  subst hq
  have hat : (wsOf K X Y)[a]? = some (kad K a, .inr (ci, (fB (X a) (Y a) a).map (trV K))) := by rw [ws_at v1, cB_o v2]
  have hvv : ((fB (X a) (Y a) a).map (trV K))[k]? = some (trV K v) := by rw [List.getElem?_map, v3]; rfl
  have kk := h out ho p l e s m args below meth c H locs ls C hP hS hl
  rcases f7 with f7 | ⟨host, f7⟩
  · exact va_get C.ex C.co C.ts f2 C.ow C.ka hP a hat f1 k f5 (C.ts _ f7) (fun x hx => by rw [f6] at hx; exact hx) hvv hd kk
  · exact va_getN C.ex C.co C.ts f2 C.ow C.ka hP a hat f1 k f5 (va_Nw.use rfl (C.ne _ f7)) (fun x hx => by rw [f6] at hx; exact hx) hvv hd kk
theorem j_putI {index ci k a : Nat} {v : Int32} {kk : HI → Option Out} (hd : decode cc pc = .ok (.putfield index, 3)) (hf : FP own index ci k .int) (hv : FW a ci k) (hq : pc + 3 = q) (h : ∀ X1, JO K own cc nL ret R kc ns PZ q L S X1 Y (kk X1)) : JO K own cc nL ret R kc ns PZ pc L (.int v :: .ref a :: S) X Y (lh (up X a k v) kk) := by
  intro out ho p l e s m args below meth c H locs ls C hP hS hl
  obtain ⟨⟨Cn, T, N, ty, f1, f2, f3, f4, f5, f6, f7⟩, g⟩ := hf
  obtain ⟨g1, g2⟩ := g _ f1
  obtain ⟨v1, v2, v3⟩ := hv
  obtain ⟨v4, v5⟩ := v3 (X a) (Y a) v
  subst hq
  have hat : (wsOf K X Y)[a]? = some (kad K a, .inr (ci, (fB (X a) (Y a) a).map (trV K))) := by rw [ws_at v1, cB_o v2]
  have he : (wsOf K X Y).set a (kad K a, .inr (ci, ((fB (X a) (Y a) a).map (trV K)).set k (trV K (.int v)))) = wsOf K (up X a k v) Y := by
    rw [← ws_up v1, cB_o v2, v4, map_set_tr]
  have k1 := fun (H1 : Heap) (locs1 : List Loc) (hP1 : va_P (kD K) classes (wsOf K (up X a k v) Y) H1) (hS1 : va_S (kA K) s.heap H1 locs1) => h (up X a k v) out ho p l e s m args below meth c H1 locs1 ls C hP1 hS1 hl
  rcases f7 with f7 | ⟨host, f7⟩
  · exact va_put (ty := .int) C.ex C.co C.ts f2 ty f3 f4 C.ow C.ka hP (ws_D C.ok X Y) hS a hat f1 k f5 (C.ts _ f7) (fun x hx => by rw [f6] at hx; exact hx) g1 g2 rfl rfl (by rw [List.length_map]; exact v5) hd (fun H1 locs1 hP1 _ hS1 => k1 H1 locs1 (by rw [he] at hP1; exact hP1) hS1)
  · exact va_putN (ty := .int) C.ex C.co C.ts f2 ty f3 f4 C.ow C.ka hP (ws_D C.ok X Y) hS a hat f1 k f5 (va_Nw.use rfl (C.ne _ f7)) (fun x hx => by rw [f6] at hx; exact hx) g1 g2 rfl rfl (by rw [List.length_map]; exact v5) hd (fun H1 locs1 hP1 _ hS1 => k1 H1 locs1 (by rw [he] at hP1; exact hP1) hS1)
theorem j_putL {index ci k a : Nat} {v : Int64} {kk : HL → Option Out} (hd : decode cc pc = .ok (.putfield index, 3)) (hf : FP own index ci k .long) (hv : FWL a ci k) (hq : pc + 3 = q) (h : ∀ Y1, JO K own cc nL ret R kc ns PZ q L S X Y1 (kk Y1)) : JO K own cc nL ret R kc ns PZ pc L (.long v :: .ref a :: S) X Y (lhY (upY Y a v) kk) := by
  intro out ho p l e s m args below meth c H locs ls C hP hS hl
  obtain ⟨⟨Cn, T, N, ty, f1, f2, f3, f4, f5, f6, f7⟩, g⟩ := hf
  obtain ⟨g1, g2⟩ := g _ f1
  obtain ⟨v1, v2, v3⟩ := hv
  obtain ⟨v4, v5⟩ := v3 (X a) (Y a) v
  subst hq
  have hat : (wsOf K X Y)[a]? = some (kad K a, .inr (ci, (fB (X a) (Y a) a).map (trV K))) := by rw [ws_at v1, cB_o v2]
  have he : (wsOf K X Y).set a (kad K a, .inr (ci, ((fB (X a) (Y a) a).map (trV K)).set k (trV K (.long v)))) = wsOf K X (upY Y a v) := by
    rw [← ws_upY v1, cB_o v2, v4, map_set_tr]
  have k1 := fun (H1 : Heap) (locs1 : List Loc) (hP1 : va_P (kD K) classes (wsOf K X (upY Y a v)) H1) (hS1 : va_S (kA K) s.heap H1 locs1) => h (upY Y a v) out ho p l e s m args below meth c H1 locs1 ls C hP1 hS1 hl
  rcases f7 with f7 | ⟨host, f7⟩
  · exact va_put (ty := .long) C.ex C.co C.ts f2 ty f3 f4 C.ow C.ka hP (ws_D C.ok X Y) hS a hat f1 k f5 (C.ts _ f7) (fun x hx => by rw [f6] at hx; exact hx) g1 g2 rfl rfl (by rw [List.length_map]; exact v5) hd (fun H1 locs1 hP1 _ hS1 => k1 H1 locs1 (by rw [he] at hP1; exact hP1) hS1)
  · exact va_putN (ty := .long) C.ex C.co C.ts f2 ty f3 f4 C.ow C.ka hP (ws_D C.ok X Y) hS a hat f1 k f5 (va_Nw.use rfl (C.ne _ f7)) (fun x hx => by rw [f6] at hx; exact hx) g1 g2 rfl rfl (by rw [List.length_map]; exact v5) hd (fun H1 locs1 hP1 _ hS1 => k1 H1 locs1 (by rw [he] at hP1; exact hP1) hS1)
theorem j_iald {a n : Nat} {i : Int32} (hd : decode cc pc = .ok (.iaload, 1)) (ha : AI a n) (hq : pc + 1 = q) (h : JO K own cc nL ret R kc ns PZ q L (.int (X a i.toNatClampNeg) :: S) X Y o) : JO K own cc nL ret R kc ns PZ pc L (.int i :: .ref a :: S) X Y (gd (ixb i n) o) := by
  intro out ho p l e s m args below meth c H locs ls C hP hS hl
  cases hb : ixb i n with
  | false => rw [hb] at ho; cases ho
  | true =>
    rw [hb] at ho
    subst hq
    exact va_iald C.ex C.co C.ka hP a 0 (by rw [ws_at ha.1, cB_i ha.2]) rfl (ixb_in hb) hd (h out ho p l e s m args below meth c H locs ls C hP hS hl)
theorem j_zald {a n : Nat} {i : Int32} (hd : decode cc pc = .ok (.baload, 1)) (ha : AZ a n) (hq : pc + 1 = q) (h : JO K own cc nL ret R kc ns PZ q L (.int (X a i.toNatClampNeg) :: S) X Y o) : JO K own cc nL ret R kc ns PZ pc L (.int i :: .ref a :: S) X Y (gd (ixb i n) o) := by
  intro out ho p l e s m args below meth c H locs ls C hP hS hl
  cases hb : ixb i n with
  | false => rw [hb] at ho; cases ho
  | true =>
    rw [hb] at ho
    subst hq
    exact va_zald C.ex C.co C.ka hP a 1 (by rw [ws_at ha.1, cB_z ha.2]) rfl (ixb_in hb) hd (h out ho p l e s m args below meth c H locs ls C hP hS hl)
theorem j_aald {a n : Nat} {i : Int32} (hd : decode cc pc = .ok (.aaload, 1)) (ha : AR a n) (hq : pc + 1 = q) (h : JO K own cc nL ret R kc ns PZ q L (.ref (rA a i.toNatClampNeg) :: S) X Y o) : JO K own cc nL ret R kc ns PZ pc L (.int i :: .ref a :: S) X Y (gd (ixb i n) o) := by
  intro out ho p l e s m args below meth c H locs ls C hP hS hl
  cases hb : ixb i n with
  | false => rw [hb] at ho; cases ho
  | true =>
    rw [hb] at ho
    subst hq
    exact va_aldq (f := fun i => some (kad K (rA a i))) C.ex C.co C.ka hP a 2 (by rw [ws_at ha.1, cB_r ha.2]) rfl (ixb_in hb) hd (h out ho p l e s m args below meth c H locs ls C hP hS hl)
theorem j_iast {a n : Nat} {i v : Int32} {kk : HI → Option Out} (hd : decode cc pc = .ok (.iastore, 1)) (ha : AI a n) (hq : pc + 1 = q) (h : ∀ X1, JO K own cc nL ret R kc ns PZ q L S X1 Y (kk X1)) : JO K own cc nL ret R kc ns PZ pc L (.int v :: .int i :: .ref a :: S) X Y (wr (ixb i n) (up X a i.toNatClampNeg v) kk) := by
  intro out ho p l e s m args below meth c H locs ls C hP hS hl
  cases hb : ixb i n with
  | false => rw [hb] at ho; cases ho
  | true =>
    rw [hb] at ho
    subst hq
    have he : (wsOf K X Y).set a (kad K a, .inl (kI K, n, .inl (upd (X a) i.toNatClampNeg v))) = wsOf K (up X a i.toNatClampNeg v) Y := by
      rw [← ws_up ha.1, cB_i ha.2]
    exact va_iast C.ex C.co C.ka hP (ws_D C.ok X Y) hS a 0 (by rw [ws_at ha.1, cB_i ha.2]) rfl (ixb_in hb) hd (fun H1 locs1 hP1 _ hS1 => h _ out ho p l e s m args below meth c H1 locs1 ls C (by rw [he] at hP1; exact hP1) hS1 hl)
theorem j_zast {a n : Nat} {i v : Int32} {kk : HI → Option Out} (hd : decode cc pc = .ok (.bastore, 1)) (ha : AZ a n) (hq : pc + 1 = q) (h : ∀ X1, JO K own cc nL ret R kc ns PZ q L S X1 Y (kk X1)) : JO K own cc nL ret R kc ns PZ pc L (.int v :: .int i :: .ref a :: S) X Y (wr (ixb i n) (up X a i.toNatClampNeg (vp_nar .boolean v)) kk) := by
  intro out ho p l e s m args below meth c H locs ls C hP hS hl
  cases hb : ixb i n with
  | false => rw [hb] at ho; cases ho
  | true =>
    rw [hb] at ho
    subst hq
    have he : (wsOf K X Y).set a (kad K a, .inl (kZ K, n, .inl (upd (X a) i.toNatClampNeg (vp_nar .boolean v)))) = wsOf K (up X a i.toNatClampNeg (vp_nar .boolean v)) Y := by
      rw [← ws_up ha.1, cB_z ha.2]
    exact va_zast C.ex C.co C.ka hP (ws_D C.ok X Y) hS a 1 (by rw [ws_at ha.1, cB_z ha.2]) rfl (ixb_in hb) hd (fun H1 locs1 hP1 _ hS1 => h _ out ho p l e s m args below meth c H1 locs1 ls C (by rw [he] at hP1; exact hP1) hS1 hl)
-- the static arrays: the reference of FACTORIALS is told as .float 1, that of THOUSANDS as .float 2
theorem j_getF {index : Nat} (hd : decode cc pc = .ok (.getstatic index, 3)) (hw : Cond.fieldLink own index "BrinePans" "FACTORIALS" "[I" ∈ gw) (hq : pc + 3 = q) (h : JO K own cc nL ret R kc ns PZ q L (.float 1 :: S) X Y o) : JO K own cc nL ret R kc ns PZ pc L S X Y o := by
  intro out ho p l e s m args below meth c H locs ls C hP hS hl
  subst hq
  exact va_gets C.ex C.co C.st.1 hS C.ow (C.ts _ hw) (fun _ h => h) hd (h out ho p l e s m args below meth c H locs ls C hP hS hl)
theorem j_getT {index : Nat} (hd : decode cc pc = .ok (.getstatic index, 3)) (hw : Cond.fieldLink own index "BrinePans" "THOUSANDS" "[J" ∈ gw) (hq : pc + 3 = q) (h : JO K own cc nL ret R kc ns PZ q L (.float 2 :: S) X Y o) : JO K own cc nL ret R kc ns PZ pc L S X Y o := by
  intro out ho p l e s m args below meth c H locs ls C hP hS hl
  subst hq
  exact va_gets C.ex C.co C.st.2.2.1 hS C.ow (C.ts _ hw) (fun _ h => h) hd (h out ho p l e s m args below meth c H locs ls C hP hS hl)
theorem j_faF {i : Int32} (hd : decode cc pc = .ok (.iaload, 1)) (hq : pc + 1 = q) (h : JO K own cc nL ret R kc ns PZ q L (.int (fac i.toNatClampNeg) :: S) X Y o) : JO K own cc nL ret R kc ns PZ pc L (.int i :: .float 1 :: S) X Y (gd (ixb i 7) o) := by
  intro out ho p l e s m args below meth c H locs ls C hP hS hl
  cases hb : ixb i 7 with
  | false => rw [hb] at ho; cases ho
  | true =>
    rw [hb] at ho
    subst hq
    exact va_ti (t := kts K 1) C.ex C.co C.st.2.1 hS (ixb_in hb) rfl hd (h out ho p l e s m args below meth c H locs ls C hP hS hl)
theorem j_faT {i : Int32} (hd : decode cc pc = .ok (.laload, 1)) (hq : pc + 1 = q) (h : JO K own cc nL ret R kc ns PZ q L (.long (tho i.toNatClampNeg) :: S) X Y o) : JO K own cc nL ret R kc ns PZ pc L (.int i :: .float 2 :: S) X Y (gd (ixb i 4) o) := by
  intro out ho p l e s m args below meth c H locs ls C hP hS hl
  cases hb : ixb i 4 with
  | false => rw [hb] at ho; cases ho
  | true =>
    rw [hb] at ho
    subst hq
    exact va_tl (t := kts K 2) C.ex C.co C.st.2.2.2 hS (ixb_in hb) rfl hd (h out ho p l e s m args below meth c H locs ls C hP hS hl)
theorem j_lenT (hd : decode cc pc = .ok (.arraylength, 1)) (hq : pc + 1 = q) (h : JO K own cc nL ret R kc ns PZ q L (.int 4 :: S) X Y o) : JO K own cc nL ret R kc ns PZ pc L (.float 2 :: S) X Y o := by
  intro out ho p l e s m args below meth c H locs ls C hP hS hl
  subst hq
  exact va_tlen (t := kts K 2) C.ex C.co C.st.2.2.2 hS (v := 4) (by decide +kernel) hd (h out ho p l e s m args below meth c H locs ls C hP hS hl)
-- switches
theorem j_tabIn {dflt lo hi : Int} {offs : Array Int} {len t : Nat} {x z : Int32} {off : Int} (hd : decode cc pc = .ok (.tableswitch dflt lo hi offs, len)) (hx : x = z) (h1 : ¬ z.toInt < lo) (h2 : ¬ hi < z.toInt) (ho2 : offs[(z.toInt - lo).toNat]? = some off) (ht : (pc : Int) + off = (t : Int)) (h : JO K own cc nL ret R kc ns PZ t L S X Y o) : JO K own cc nL ret R kc ns PZ pc L (.int x :: S) X Y o := by
  intro out ho p l e s m args below meth c H locs ls C hP hS hl
  subst hx
  exact lv_tableIn C.ex C.co hd h1 h2 ho2 ht (h out ho p l e s m args below meth c H locs ls C hP hS hl)
theorem j_tabOut {dflt lo hi : Int} {offs : Array Int} {len t : Nat} {x : Int32} (hd : decode cc pc = .ok (.tableswitch dflt lo hi offs, len)) (h1 : x.toInt < lo ∨ hi < x.toInt) (ht : (pc : Int) + dflt = (t : Int)) (h : JO K own cc nL ret R kc ns PZ t L S X Y o) : JO K own cc nL ret R kc ns PZ pc L (.int x :: S) X Y o :=
  fun out ho p l e s m args below meth c H locs ls C hP hS hl => lv_tableOut C.ex C.co hd h1 ht (h out ho p l e s m args below meth c H locs ls C hP hS hl)
theorem j_look {dflt : Int} {ps : Array (Int × Int)} {len t : Nat} {x : Int32} {off : Int} (hd : decode cc pc = .ok (.lookupswitch dflt ps, len)) (hp : (ps.toList.zip (ps.toList.drop 1)).all (fun (a, next) => a.1 < next.1) = true) (ho2 : Op.lookupswitch.offset ps.toList dflt x.toInt = off) (ht : (pc : Int) + off = (t : Int)) (h : JO K own cc nL ret R kc ns PZ t L S X Y o) : JO K own cc nL ret R kc ns PZ pc L (.int x :: S) X Y o :=
  fun out ho p l e s m args below meth c H locs ls C hP hS hl => lv_lookup C.ex C.co hd hp ho2 ht (h out ho p l e s m args below meth c H locs ls C hP hS hl)
end JR2
/-- out of a table from 0 on -/
theorem tab_out {x : Int32} (n : Nat) (h : ∀ j, j ≤ n → x.toInt ≠ (j : Int)) : x.toInt < 0 ∨ (n : Int) < x.toInt := by
  by_cases h1 : x.toInt < 0
  · exact Or.inl h1
  · right
    have h2 := h x.toInt.toNat
    omega
theorem ne_toInt {x z : Int32} (h : ¬ x = z) : x.toInt ≠ z.toInt := fun e => h (Int32.toInt_inj.mp e)
-- ends
section JR3
variable {K : KK} {own : String} {cc : ByteArray} {nL : Nat} {R : Room} {pc : Nat} {L : List (Option Value)} {X : HI} {Y : HL}
theorem j_iret {v : Int32} (hd : decode cc pc = .ok (.ireturn, 1)) : JO K own cc nL (some .int) R 0 0 (MZ K) pc L [.int v] X Y (rI v X Y) := by
  intro out ho p l e s m args below meth c H locs ls C hP hS hl
  cases ho
  exact W.iret C.ex C.co C.re (fun t ht hW => ⟨⟨rfl, by rw [ht]; exact hP⟩, hS.F ht⟩) hS.2.2 hd C.lk
theorem j_zret {v : Int32} (hd : decode cc pc = .ok (.ireturn, 1)) (hv : narrow .boolean (.int v) = .int v) : JO K own cc nL (some .boolean) R 0 0 (MZ K) pc L [.int v] X Y (rI v X Y) := by
  intro out ho p l e s m args below meth c H locs ls C hP hS hl
  cases ho
  exact W.zret C.ex C.co C.re hv (fun t ht hW => ⟨⟨rfl, by rw [ht]; exact hP⟩, hS.F ht⟩) hS.2.2 hd C.lk
theorem j_lret {v : Int64} (hd : decode cc pc = .ok (.lreturn, 1)) : JO K own cc nL (some .long) R 0 0 (MZ K) pc L [.long v] X Y (rL v X Y) := by
  intro out ho p l e s m args below meth c H locs ls C hP hS hl
  cases ho
  exact W.lret C.ex C.co C.re (fun t ht hW => ⟨⟨rfl, by rw [ht]; exact hP⟩, hS.F ht⟩) hS.2.2 hd C.lk
theorem j_vret (hd : decode cc pc = .ok (.return_, 1)) : JO K own cc nL none R 0 0 (MZ K) pc L [] X Y (rV X Y) := by
  intro out ho p l e s m args below meth c H locs ls C hP hS hl
  cases ho
  exact W.vret C.ex C.co C.re (fun t ht hW => ⟨⟨rfl, by rw [ht]; exact hP⟩, hS.F ht⟩) hS.2.2 hd C.lk
theorem j_aret {v : Nat} {n : String} (hd : decode cc pc = .ok (.areturn, 1)) : JO K own cc nL (some (.object n)) R 0 0 (MZ K) pc L [.ref v] X Y (rR v X Y) := by
  intro out ho p l e s m args below meth c H locs ls C hP hS hl
  cases ho
  exact W.aret (v := .ref (kad K v)) C.ex C.co C.re (Or.inl ⟨_, rfl⟩) (Or.inr ⟨_, rfl⟩) (fun t ht hW => ⟨⟨rfl, by rw [ht]; exact hP⟩, hS.F ht⟩) hS.2.2 hd C.lk
end JR3
end
section
/-! calls -/
def MW (y : MethodName) (bytes : ByteArray) (maxL : Nat) (ret : Option FieldType) (n : Nat) : Prop := Cond.code y bytes maxL ret ∈ gw ∧ Cond.initialized y.cls ∈ gw ∧ (y.cls ≠ "java/lang/invoke/MethodHandle" ∧ y.cls ≠ "java/lang/invoke/VarHandle" ∧ (parseMethodDescriptor y.desc).map (fun d => d.parameters.length) = some n)
def MV (y : MethodName) : Prop := Cond.instanceMethod y ∈ gw ∧ Cond.selects y.cls y y ∈ gw
def MS (y : MethodName) : Prop := Cond.static y ∈ gw
def OB (a : Nat) (C : String) : Prop := a < 86 ∧ ∃ (ci : Nat) (q : vw_C), kd a = (0, ci) ∧ classes[ci]? = some q ∧ q.1 = C
def RM (R rm : Room) (maxL kc ns : Nat) : Prop := (rm.cells = 0 ∧ rm.slots = 0) ∧ (rm.frames + 1 ≤ R.frames ∧ 8 + (maxL + 11) + rm.locals ≤ R.locals) ∧ (kc ≤ R.cells ∧ ns ≤ R.slots)
theorem gw_good {ws : List Cond} (h : ∀ w ∈ ws, w ∈ gw) : GoodIn gw ws := fun w hw => ⟨h w hw, gw_all w (h w hw)⟩
theorem Pk_blind (K : KK) (av : List Value) (X : HI) (Y : HL) : FrameBlind (va_Pc av (Pk K X Y)) := fun a U g mk q => by
  obtain ⟨q0, qP, qK, qN, qS⟩ := q
  exact ⟨q0, qP, va_K.moved (u := U) (U := U.calling g mk a) (Vm.Alike.refl U.vm) qK, kN.same (u := U) (U := U.calling g mk a) rfl qN, kSt.moved (s := U) (U := U.calling g mk a) (Vm.Alike.refl U.vm) (fun _ _ _ => rfl) qS⟩
theorem bi_some {o : Option Out} {k : Int32 → HI → HL → Option Out} {out : Out} (h : bi o k = some out) : ∃ r X Y, o = some (some (.int r), X, Y) ∧ k r X Y = some out := by
  unfold bi at h
  split at h
  · exact ⟨_, _, _, rfl, h⟩
  · cases h
theorem bl_some {o : Option Out} {k : Int64 → HI → HL → Option Out} {out : Out} (h : bl o k = some out) : ∃ r X Y, o = some (some (.long r), X, Y) ∧ k r X Y = some out := by
  unfold bl at h
  split at h
  · exact ⟨_, _, _, rfl, h⟩
  · cases h
theorem bv_some {o : Option Out} {k : HI → HL → Option Out} {out : Out} (h : bv o k = some out) : ∃ X Y, o = some (none, X, Y) ∧ k X Y = some out := by
  unfold bv at h
  split at h
  · exact ⟨_, _, rfl, h⟩
  · cases h
theorem br_some {n : Nat} {o : Option Out} {k : HI → HL → Option Out} {out : Out} (h : br n o k = some out) : ∃ X Y, o = some (some (.ref n), X, Y) ∧ k X Y = some out := by
  unfold br at h
  split at h
  · split at h
    · next e => subst e; exact ⟨_, _, rfl, h⟩
    · cases h
  · cases h
section JC
variable {K : KK} {own : String} {cc : ByteArray} {nL : Nat} {ret : Option FieldType} {R : Room} {kc ns : Nat} {PZ : PZT} {pc q : Nat} {L L' : List (Option Value)} {S st0 : List Value} {X : HI} {Y : HL} {o o1 o2 : Option Out}
theorem w_call {p : Program} {l : Launch} {e : Env} {s : State} {m : MethodId} {args : Array Value} {below : List Frame} {meth : Method} {c : Code} {H H0 : Heap} {locs : List Loc} {cells slots : Nat} {Q : State → Prop} {ls : Array Slot} {sT rest : List Value} {a : Array Value} {out1 : Out}
    (hr : va_Run p l e R s m args below meth c H locs cells slots 0 0 (F0 m pc ls sT) rest (QcO K out1 a) (kA K)) (hS : va_S (kA K) H0 H locs)
    (kk : ∀ (H1 : Heap) (locs1 : List Loc), va_P (kD K) classes (wsOf K out1.2.1 out1.2.2) H1 → va_S (kA K) H0 H1 locs1 → W p l e R s m args below meth c H1 locs1 cells slots Q (F0 m (pc + 3) ls ((out1.1.map (trV K)).toList ++ rest))) : W p l e R s m args below meth c H locs cells slots Q (F0 m pc ls sT) := by
  intro T hT X
  obtain ⟨v, st₀, t, T', L, h0, X', hL, e1, e2, ⟨⟨hv, hp⟩, hz, hk⟩, st⟩ := hr T hT X
  cases hv
  rw [h0] at hz hk
  obtain ⟨t2, a1, b1⟩ := kk T'.heap (locs ++ L) (by rw [e1]; exact hp)
    ⟨Nat.le_trans hS.1 (by rw [e1]; exact hz), fun q h1 h2 => by rw [e1, hk q (Nat.lt_of_lt_of_le h1 hS.1) h2]; exact hS.2.1 q h1 h2, fun q hq => by
      rcases List.mem_append.mp hq with h | h
      · exact hS.2.2 q h
      · exact hL q h⟩ T' rfl X'
  exact ⟨t2, st t2 a1, b1⟩
theorem pre_at {p : Program} {s : State} {m : MethodId} {args : Array Value} {meth : Method} {c : Code} {H : Heap} {locs : List Loc} (C : Cx K own cc nL ret p s m args meth c) (hP : va_P (kD K) classes (wsOf K X Y) H) (hS : va_S (kA K) s.heap H locs) (av : List Value) : ∀ U : State, U.heap = H → s.WarmedH U.vm → va_Pc av (Pk K X Y) av.toArray U :=
  fun U hU hW => ⟨rfl, by rw [hU]; exact hP, va_K.moved hW.alike C.ka, C.ne.warm hW, kSt.moved hW.alike (fun q h1 h2 => by rw [hU]; exact hS.2.1 q h1 h2) C.st⟩
theorem room8 {m : MethodId} {ls : Array Slot} {g : List Value} (hS8 : (S.map (fun v => v.category)).sum ≤ 8) : 2 * (F0 m pc ls g).monitorRoom + ((S.map (trV K)).map (fun v => v.category)).sum ≤ 8 :=
  lv_room (by
    rw [List.map_map]
    have e : List.map ((fun v => v.category) ∘ trV K) S = S.map (fun v => v.category) := List.map_congr_left (fun v _ => trV_cat K v)
    rw [e]; exact hS8)
theorem j_callVi {index : Nat} {y : MethodName} {bytes : ByteArray} {maxL n : Nat} {retc : Option FieldType} {rm : Room} {a : Nat} {k : Int32 → HI → HL → Option Out} (As : List Value) (hd : decode cc pc = .ok (.invokevirtual index, 3)) (hw : MW y bytes maxL retc n) (hv : MV y) (hl : Cond.methodLink own index y ∈ gw) (hob : OB a y.cls) (hst : st0 = As.reverse ++ .ref a :: S) (hn : As.length = n) (hc : CT K y bytes maxL retc rm (.ref a :: As) X Y o1) (hR : RM R rm maxL kc ns) (hS8 : (S.map (fun v => v.category)).sum ≤ 8) (hq : pc + 3 = q) (h : ∀ r X1 Y1, JO K own cc nL ret R kc ns PZ q L (.int r :: S) X1 Y1 (k r X1 Y1)) : JO K own cc nL ret R kc ns PZ pc L st0 X Y (bi o1 k) := by
  intro out ho p l e s m args below meth c H locs ls C hP hS hlo
  subst hq
  have hl0 : ls.size = nL := hlo.1
  obtain ⟨r, X1, Y1, e1, e2⟩ := bi_some ho
  have hM := hc _ e1 l
  obtain ⟨⟨r1, r2⟩, r3, r4⟩ := hR
  obtain ⟨oa, ci, q5, ob, oc, od⟩ := hob
  have hat : (wsOf K X Y)[a]? = some (kad K a, .inr (ci, (fB (X a) (Y a) a).map (trV K))) := by rw [ws_at oa, cB_o ob]
  have hrecv := va_recv C.ka hP oc hat
  rw [od] at hrecv
  have hst2 : st0.map (trV K) = (As.map (trV K)).reverse ++ .ref (kad K a) :: S.map (trV K) := by rw [hst, List.map_append, List.map_reverse]; rfl
  exact w_call (va_runV (As := As.map (trV K)) (rest := S.map (trV K)) ⟨C.ex, C.co, C.ml, C.ow, C.ts⟩ hM (cwV n C.ts (gw_good (fun w hw5 => by
    rcases List.mem_append.mp hw5 with h5 | h5
    · simp only [List.mem_cons, List.not_mem_nil, or_false] at h5
      rcases h5 with rfl | rfl | rfl | rfl
      · exact hl
      · exact hv.1
      · exact hv.2
      · exact hw.2.1
    · exact (List.mem_cons.mp h5).elim (fun e5 => by rw [e5]; exact hw.1) (fun h5 => h5))) rfl r1 r2 ⟨rfl, hw.2.2⟩ r3) ⟨Pk_blind K _ X Y, hrecv, pre_at C hP hS (.ref (kad K a) :: As.map (trV K))⟩ rfl (by rw [List.length_map]; exact hn) hl0 hst2 (room8 hS8) hd ⟨r4.1, r4.2⟩) hS (fun H1 locs1 hP1 hS1 => h r X1 Y1 out e2 p l e s m args below meth c H1 locs1 ls C hP1 hS1 hlo)
theorem j_callVl {index : Nat} {y : MethodName} {bytes : ByteArray} {maxL n : Nat} {retc : Option FieldType} {rm : Room} {a : Nat} {k : Int64 → HI → HL → Option Out} (As : List Value) (hd : decode cc pc = .ok (.invokevirtual index, 3)) (hw : MW y bytes maxL retc n) (hv : MV y) (hl : Cond.methodLink own index y ∈ gw) (hob : OB a y.cls) (hst : st0 = As.reverse ++ .ref a :: S) (hn : As.length = n) (hc : CT K y bytes maxL retc rm (.ref a :: As) X Y o1) (hR : RM R rm maxL kc ns) (hS8 : (S.map (fun v => v.category)).sum ≤ 8) (hq : pc + 3 = q) (h : ∀ r X1 Y1, JO K own cc nL ret R kc ns PZ q L (.long r :: S) X1 Y1 (k r X1 Y1)) : JO K own cc nL ret R kc ns PZ pc L st0 X Y (bl o1 k) := by
  intro out ho p l e s m args below meth c H locs ls C hP hS hlo
  subst hq
  have hl0 : ls.size = nL := hlo.1
  obtain ⟨r, X1, Y1, e1, e2⟩ := bl_some ho
  have hM := hc _ e1 l
  obtain ⟨⟨r1, r2⟩, r3, r4⟩ := hR
  obtain ⟨oa, ci, q5, ob, oc, od⟩ := hob
  have hat : (wsOf K X Y)[a]? = some (kad K a, .inr (ci, (fB (X a) (Y a) a).map (trV K))) := by rw [ws_at oa, cB_o ob]
  have hrecv := va_recv C.ka hP oc hat
  rw [od] at hrecv
  have hst2 : st0.map (trV K) = (As.map (trV K)).reverse ++ .ref (kad K a) :: S.map (trV K) := by rw [hst, List.map_append, List.map_reverse]; rfl
  exact w_call (va_runV (As := As.map (trV K)) (rest := S.map (trV K)) ⟨C.ex, C.co, C.ml, C.ow, C.ts⟩ hM (cwV n C.ts (gw_good (fun w hw5 => by
    rcases List.mem_append.mp hw5 with h5 | h5
    · simp only [List.mem_cons, List.not_mem_nil, or_false] at h5
      rcases h5 with rfl | rfl | rfl | rfl
      · exact hl
      · exact hv.1
      · exact hv.2
      · exact hw.2.1
    · exact (List.mem_cons.mp h5).elim (fun e5 => by rw [e5]; exact hw.1) (fun h5 => h5))) rfl r1 r2 ⟨rfl, hw.2.2⟩ r3) ⟨Pk_blind K _ X Y, hrecv, pre_at C hP hS (.ref (kad K a) :: As.map (trV K))⟩ rfl (by rw [List.length_map]; exact hn) hl0 hst2 (room8 hS8) hd ⟨r4.1, r4.2⟩) hS (fun H1 locs1 hP1 hS1 => h r X1 Y1 out e2 p l e s m args below meth c H1 locs1 ls C hP1 hS1 hlo)
theorem j_callVv {index : Nat} {y : MethodName} {bytes : ByteArray} {maxL n : Nat} {retc : Option FieldType} {rm : Room} {a : Nat} {k : HI → HL → Option Out} (As : List Value) (hd : decode cc pc = .ok (.invokevirtual index, 3)) (hw : MW y bytes maxL retc n) (hv : MV y) (hl : Cond.methodLink own index y ∈ gw) (hob : OB a y.cls) (hst : st0 = As.reverse ++ .ref a :: S) (hn : As.length = n) (hc : CT K y bytes maxL retc rm (.ref a :: As) X Y o1) (hR : RM R rm maxL kc ns) (hS8 : (S.map (fun v => v.category)).sum ≤ 8) (hq : pc + 3 = q) (h : ∀ X1 Y1, JO K own cc nL ret R kc ns PZ q L S X1 Y1 (k X1 Y1)) : JO K own cc nL ret R kc ns PZ pc L st0 X Y (bv o1 k) := by
  intro out ho p l e s m args below meth c H locs ls C hP hS hlo
  subst hq
  have hl0 : ls.size = nL := hlo.1
  obtain ⟨X1, Y1, e1, e2⟩ := bv_some ho
  have hM := hc _ e1 l
  obtain ⟨⟨r1, r2⟩, r3, r4⟩ := hR
  obtain ⟨oa, ci, q5, ob, oc, od⟩ := hob
  have hat : (wsOf K X Y)[a]? = some (kad K a, .inr (ci, (fB (X a) (Y a) a).map (trV K))) := by rw [ws_at oa, cB_o ob]
  have hrecv := va_recv C.ka hP oc hat
  rw [od] at hrecv
  have hst2 : st0.map (trV K) = (As.map (trV K)).reverse ++ .ref (kad K a) :: S.map (trV K) := by rw [hst, List.map_append, List.map_reverse]; rfl
  exact w_call (va_runV (As := As.map (trV K)) (rest := S.map (trV K)) ⟨C.ex, C.co, C.ml, C.ow, C.ts⟩ hM (cwV n C.ts (gw_good (fun w hw5 => by
    rcases List.mem_append.mp hw5 with h5 | h5
    · simp only [List.mem_cons, List.not_mem_nil, or_false] at h5
      rcases h5 with rfl | rfl | rfl | rfl
      · exact hl
      · exact hv.1
      · exact hv.2
      · exact hw.2.1
    · exact (List.mem_cons.mp h5).elim (fun e5 => by rw [e5]; exact hw.1) (fun h5 => h5))) rfl r1 r2 ⟨rfl, hw.2.2⟩ r3) ⟨Pk_blind K _ X Y, hrecv, pre_at C hP hS (.ref (kad K a) :: As.map (trV K))⟩ rfl (by rw [List.length_map]; exact hn) hl0 hst2 (room8 hS8) hd ⟨r4.1, r4.2⟩) hS (fun H1 locs1 hP1 hS1 => h X1 Y1 out e2 p l e s m args below meth c H1 locs1 ls C hP1 hS1 hlo)
theorem j_callVr {index : Nat} {y : MethodName} {bytes : ByteArray} {maxL n : Nat} {retc : Option FieldType} {rm : Room} {a : Nat} {ra : Nat} {k : HI → HL → Option Out} (As : List Value) (hd : decode cc pc = .ok (.invokevirtual index, 3)) (hw : MW y bytes maxL retc n) (hv : MV y) (hl : Cond.methodLink own index y ∈ gw) (hob : OB a y.cls) (hst : st0 = As.reverse ++ .ref a :: S) (hn : As.length = n) (hc : CT K y bytes maxL retc rm (.ref a :: As) X Y o1) (hR : RM R rm maxL kc ns) (hS8 : (S.map (fun v => v.category)).sum ≤ 8) (hq : pc + 3 = q) (h : ∀ X1 Y1, JO K own cc nL ret R kc ns PZ q L (.ref ra :: S) X1 Y1 (k X1 Y1)) : JO K own cc nL ret R kc ns PZ pc L st0 X Y (br ra o1 k) := by
  intro out ho p l e s m args below meth c H locs ls C hP hS hlo
  subst hq
  have hl0 : ls.size = nL := hlo.1
  obtain ⟨X1, Y1, e1, e2⟩ := br_some ho
  have hM := hc _ e1 l
  obtain ⟨⟨r1, r2⟩, r3, r4⟩ := hR
  obtain ⟨oa, ci, q5, ob, oc, od⟩ := hob
  have hat : (wsOf K X Y)[a]? = some (kad K a, .inr (ci, (fB (X a) (Y a) a).map (trV K))) := by rw [ws_at oa, cB_o ob]
  have hrecv := va_recv C.ka hP oc hat
  rw [od] at hrecv
  have hst2 : st0.map (trV K) = (As.map (trV K)).reverse ++ .ref (kad K a) :: S.map (trV K) := by rw [hst, List.map_append, List.map_reverse]; rfl
  exact w_call (va_runV (As := As.map (trV K)) (rest := S.map (trV K)) ⟨C.ex, C.co, C.ml, C.ow, C.ts⟩ hM (cwV n C.ts (gw_good (fun w hw5 => by
    rcases List.mem_append.mp hw5 with h5 | h5
    · simp only [List.mem_cons, List.not_mem_nil, or_false] at h5
      rcases h5 with rfl | rfl | rfl | rfl
      · exact hl
      · exact hv.1
      · exact hv.2
      · exact hw.2.1
    · exact (List.mem_cons.mp h5).elim (fun e5 => by rw [e5]; exact hw.1) (fun h5 => h5))) rfl r1 r2 ⟨rfl, hw.2.2⟩ r3) ⟨Pk_blind K _ X Y, hrecv, pre_at C hP hS (.ref (kad K a) :: As.map (trV K))⟩ rfl (by rw [List.length_map]; exact hn) hl0 hst2 (room8 hS8) hd ⟨r4.1, r4.2⟩) hS (fun H1 locs1 hP1 hS1 => h X1 Y1 out e2 p l e s m args below meth c H1 locs1 ls C hP1 hS1 hlo)
theorem j_callVNi {index : Nat} {y : MethodName} {bytes : ByteArray} {maxL n : Nat} {retc : Option FieldType} {rm : Room} {a : Nat} {k : Int32 → HI → HL → Option Out} (As : List Value) (hd : decode cc pc = .ok (.invokevirtual index, 3)) (hw : MW y bytes maxL retc n) (hv : MV y) {host : String} (hl : Cond.methodLinkNest own index y host ∈ nw) (hob : OB a y.cls) (hst : st0 = As.reverse ++ .ref a :: S) (hn : As.length = n) (hc : CT K y bytes maxL retc rm (.ref a :: As) X Y o1) (hR : RM R rm maxL kc ns) (hS8 : (S.map (fun v => v.category)).sum ≤ 8) (hq : pc + 3 = q) (h : ∀ r X1 Y1, JO K own cc nL ret R kc ns PZ q L (.int r :: S) X1 Y1 (k r X1 Y1)) : JO K own cc nL ret R kc ns PZ pc L st0 X Y (bi o1 k) := by
  intro out ho p l e s m args below meth c H locs ls C hP hS hlo
  subst hq
  have hl0 : ls.size = nL := hlo.1
  obtain ⟨r, X1, Y1, e1, e2⟩ := bi_some ho
  have hM := hc _ e1 l
  obtain ⟨⟨r1, r2⟩, r3, r4⟩ := hR
  obtain ⟨oa, ci, q5, ob, oc, od⟩ := hob
  have hat : (wsOf K X Y)[a]? = some (kad K a, .inr (ci, (fB (X a) (Y a) a).map (trV K))) := by rw [ws_at oa, cB_o ob]
  have hrecv := va_recv C.ka hP oc hat
  rw [od] at hrecv
  have hst2 : st0.map (trV K) = (As.map (trV K)).reverse ++ .ref (kad K a) :: S.map (trV K) := by rw [hst, List.map_append, List.map_reverse]; rfl
  exact w_call (va_runVN (As := As.map (trV K)) (rest := S.map (trV K)) ⟨C.ex, C.co, C.ml, C.ow, C.ts⟩ hM ⟨va_cnB n C.ts (gw_good (fun w hw5 => (List.mem_cons.mp hw5).elim (fun e5 => by rw [e5]; exact hw.1) (fun h5 => h5))) rfl r1 r2 (C.ne _ hl) (C.ts _ hw.2.1) hw.2.2 r3, C.ts _ hv.1, C.ts _ hv.2⟩ ⟨Pk_blind K _ X Y, hrecv, pre_at C hP hS (.ref (kad K a) :: As.map (trV K))⟩ rfl (by rw [List.length_map]; exact hn) hl0 hst2 (room8 hS8) hd ⟨r4.1, r4.2⟩) hS (fun H1 locs1 hP1 hS1 => h r X1 Y1 out e2 p l e s m args below meth c H1 locs1 ls C hP1 hS1 hlo)
theorem j_callVNl {index : Nat} {y : MethodName} {bytes : ByteArray} {maxL n : Nat} {retc : Option FieldType} {rm : Room} {a : Nat} {k : Int64 → HI → HL → Option Out} (As : List Value) (hd : decode cc pc = .ok (.invokevirtual index, 3)) (hw : MW y bytes maxL retc n) (hv : MV y) {host : String} (hl : Cond.methodLinkNest own index y host ∈ nw) (hob : OB a y.cls) (hst : st0 = As.reverse ++ .ref a :: S) (hn : As.length = n) (hc : CT K y bytes maxL retc rm (.ref a :: As) X Y o1) (hR : RM R rm maxL kc ns) (hS8 : (S.map (fun v => v.category)).sum ≤ 8) (hq : pc + 3 = q) (h : ∀ r X1 Y1, JO K own cc nL ret R kc ns PZ q L (.long r :: S) X1 Y1 (k r X1 Y1)) : JO K own cc nL ret R kc ns PZ pc L st0 X Y (bl o1 k) := by
  intro out ho p l e s m args below meth c H locs ls C hP hS hlo
  subst hq
  have hl0 : ls.size = nL := hlo.1
  obtain ⟨r, X1, Y1, e1, e2⟩ := bl_some ho
  have hM := hc _ e1 l
  obtain ⟨⟨r1, r2⟩, r3, r4⟩ := hR
  obtain ⟨oa, ci, q5, ob, oc, od⟩ := hob
  have hat : (wsOf K X Y)[a]? = some (kad K a, .inr (ci, (fB (X a) (Y a) a).map (trV K))) := by rw [ws_at oa, cB_o ob]
  have hrecv := va_recv C.ka hP oc hat
  rw [od] at hrecv
  have hst2 : st0.map (trV K) = (As.map (trV K)).reverse ++ .ref (kad K a) :: S.map (trV K) := by rw [hst, List.map_append, List.map_reverse]; rfl
  exact w_call (va_runVN (As := As.map (trV K)) (rest := S.map (trV K)) ⟨C.ex, C.co, C.ml, C.ow, C.ts⟩ hM ⟨va_cnB n C.ts (gw_good (fun w hw5 => (List.mem_cons.mp hw5).elim (fun e5 => by rw [e5]; exact hw.1) (fun h5 => h5))) rfl r1 r2 (C.ne _ hl) (C.ts _ hw.2.1) hw.2.2 r3, C.ts _ hv.1, C.ts _ hv.2⟩ ⟨Pk_blind K _ X Y, hrecv, pre_at C hP hS (.ref (kad K a) :: As.map (trV K))⟩ rfl (by rw [List.length_map]; exact hn) hl0 hst2 (room8 hS8) hd ⟨r4.1, r4.2⟩) hS (fun H1 locs1 hP1 hS1 => h r X1 Y1 out e2 p l e s m args below meth c H1 locs1 ls C hP1 hS1 hlo)
theorem j_callVNv {index : Nat} {y : MethodName} {bytes : ByteArray} {maxL n : Nat} {retc : Option FieldType} {rm : Room} {a : Nat} {k : HI → HL → Option Out} (As : List Value) (hd : decode cc pc = .ok (.invokevirtual index, 3)) (hw : MW y bytes maxL retc n) (hv : MV y) {host : String} (hl : Cond.methodLinkNest own index y host ∈ nw) (hob : OB a y.cls) (hst : st0 = As.reverse ++ .ref a :: S) (hn : As.length = n) (hc : CT K y bytes maxL retc rm (.ref a :: As) X Y o1) (hR : RM R rm maxL kc ns) (hS8 : (S.map (fun v => v.category)).sum ≤ 8) (hq : pc + 3 = q) (h : ∀ X1 Y1, JO K own cc nL ret R kc ns PZ q L S X1 Y1 (k X1 Y1)) : JO K own cc nL ret R kc ns PZ pc L st0 X Y (bv o1 k) := by
  intro out ho p l e s m args below meth c H locs ls C hP hS hlo
  subst hq
  have hl0 : ls.size = nL := hlo.1
  obtain ⟨X1, Y1, e1, e2⟩ := bv_some ho
  have hM := hc _ e1 l
  obtain ⟨⟨r1, r2⟩, r3, r4⟩ := hR
  obtain ⟨oa, ci, q5, ob, oc, od⟩ := hob
  have hat : (wsOf K X Y)[a]? = some (kad K a, .inr (ci, (fB (X a) (Y a) a).map (trV K))) := by rw [ws_at oa, cB_o ob]
  have hrecv := va_recv C.ka hP oc hat
  rw [od] at hrecv
  have hst2 : st0.map (trV K) = (As.map (trV K)).reverse ++ .ref (kad K a) :: S.map (trV K) := by rw [hst, List.map_append, List.map_reverse]; rfl
  exact w_call (va_runVN (As := As.map (trV K)) (rest := S.map (trV K)) ⟨C.ex, C.co, C.ml, C.ow, C.ts⟩ hM ⟨va_cnB n C.ts (gw_good (fun w hw5 => (List.mem_cons.mp hw5).elim (fun e5 => by rw [e5]; exact hw.1) (fun h5 => h5))) rfl r1 r2 (C.ne _ hl) (C.ts _ hw.2.1) hw.2.2 r3, C.ts _ hv.1, C.ts _ hv.2⟩ ⟨Pk_blind K _ X Y, hrecv, pre_at C hP hS (.ref (kad K a) :: As.map (trV K))⟩ rfl (by rw [List.length_map]; exact hn) hl0 hst2 (room8 hS8) hd ⟨r4.1, r4.2⟩) hS (fun H1 locs1 hP1 hS1 => h X1 Y1 out e2 p l e s m args below meth c H1 locs1 ls C hP1 hS1 hlo)
theorem j_callVNr {index : Nat} {y : MethodName} {bytes : ByteArray} {maxL n : Nat} {retc : Option FieldType} {rm : Room} {a : Nat} {ra : Nat} {k : HI → HL → Option Out} (As : List Value) (hd : decode cc pc = .ok (.invokevirtual index, 3)) (hw : MW y bytes maxL retc n) (hv : MV y) {host : String} (hl : Cond.methodLinkNest own index y host ∈ nw) (hob : OB a y.cls) (hst : st0 = As.reverse ++ .ref a :: S) (hn : As.length = n) (hc : CT K y bytes maxL retc rm (.ref a :: As) X Y o1) (hR : RM R rm maxL kc ns) (hS8 : (S.map (fun v => v.category)).sum ≤ 8) (hq : pc + 3 = q) (h : ∀ X1 Y1, JO K own cc nL ret R kc ns PZ q L (.ref ra :: S) X1 Y1 (k X1 Y1)) : JO K own cc nL ret R kc ns PZ pc L st0 X Y (br ra o1 k) := by
  intro out ho p l e s m args below meth c H locs ls C hP hS hlo
  subst hq
  have hl0 : ls.size = nL := hlo.1
  obtain ⟨X1, Y1, e1, e2⟩ := br_some ho
  have hM := hc _ e1 l
  obtain ⟨⟨r1, r2⟩, r3, r4⟩ := hR
  obtain ⟨oa, ci, q5, ob, oc, od⟩ := hob
  have hat : (wsOf K X Y)[a]? = some (kad K a, .inr (ci, (fB (X a) (Y a) a).map (trV K))) := by rw [ws_at oa, cB_o ob]
  have hrecv := va_recv C.ka hP oc hat
  rw [od] at hrecv
  have hst2 : st0.map (trV K) = (As.map (trV K)).reverse ++ .ref (kad K a) :: S.map (trV K) := by rw [hst, List.map_append, List.map_reverse]; rfl
  exact w_call (va_runVN (As := As.map (trV K)) (rest := S.map (trV K)) ⟨C.ex, C.co, C.ml, C.ow, C.ts⟩ hM ⟨va_cnB n C.ts (gw_good (fun w hw5 => (List.mem_cons.mp hw5).elim (fun e5 => by rw [e5]; exact hw.1) (fun h5 => h5))) rfl r1 r2 (C.ne _ hl) (C.ts _ hw.2.1) hw.2.2 r3, C.ts _ hv.1, C.ts _ hv.2⟩ ⟨Pk_blind K _ X Y, hrecv, pre_at C hP hS (.ref (kad K a) :: As.map (trV K))⟩ rfl (by rw [List.length_map]; exact hn) hl0 hst2 (room8 hS8) hd ⟨r4.1, r4.2⟩) hS (fun H1 locs1 hP1 hS1 => h X1 Y1 out e2 p l e s m args below meth c H1 locs1 ls C hP1 hS1 hlo)
theorem j_callSi {index : Nat} {y : MethodName} {bytes : ByteArray} {maxL n : Nat} {retc : Option FieldType} {rm : Room} {k : Int32 → HI → HL → Option Out} (As : List Value) (hd : decode cc pc = .ok (.invokestatic index, 3)) (hw : MW y bytes maxL retc n) (hv : MS y) (hl : Cond.methodLink own index y ∈ gw) (hst : st0 = As.reverse ++ S) (hn : As.length = n) (hc : CT K y bytes maxL retc rm (As) X Y o1) (hR : RM R rm maxL kc ns) (hS8 : (S.map (fun v => v.category)).sum ≤ 8) (hq : pc + 3 = q) (h : ∀ r X1 Y1, JO K own cc nL ret R kc ns PZ q L (.int r :: S) X1 Y1 (k r X1 Y1)) : JO K own cc nL ret R kc ns PZ pc L st0 X Y (bi o1 k) := by
  intro out ho p l e s m args below meth c H locs ls C hP hS hlo
  subst hq
  have hl0 : ls.size = nL := hlo.1
  obtain ⟨r, X1, Y1, e1, e2⟩ := bi_some ho
  have hM := hc _ e1 l
  obtain ⟨⟨r1, r2⟩, r3, r4⟩ := hR
  have hst2 : st0.map (trV K) = (As.map (trV K)).reverse ++ S.map (trV K) := by rw [hst, List.map_append, List.map_reverse]
  exact w_call (va_runS (As := As.map (trV K)) (rest := S.map (trV K)) ⟨C.ex, C.co, C.ml, C.ow, C.ts⟩ hM (va_cwS n C.ts (gw_good (fun w hw5 => by
    rcases List.mem_append.mp hw5 with h5 | h5
    · simp only [List.mem_cons, List.not_mem_nil, or_false] at h5
      rcases h5 with rfl | rfl | rfl
      · exact hl
      · exact hv
      · exact hw.2.1
    · exact (List.mem_cons.mp h5).elim (fun e5 => by rw [e5]; exact hw.1) (fun h5 => h5))) rfl r1 r2 hw.2.2 r3) ⟨Pk_blind K _ X Y, pre_at C hP hS (As.map (trV K))⟩ rfl (by rw [List.length_map]; exact hn) hl0 hst2 (room8 hS8) hd ⟨r4.1, r4.2⟩) hS (fun H1 locs1 hP1 hS1 => h r X1 Y1 out e2 p l e s m args below meth c H1 locs1 ls C hP1 hS1 hlo)
theorem j_callSl {index : Nat} {y : MethodName} {bytes : ByteArray} {maxL n : Nat} {retc : Option FieldType} {rm : Room} {k : Int64 → HI → HL → Option Out} (As : List Value) (hd : decode cc pc = .ok (.invokestatic index, 3)) (hw : MW y bytes maxL retc n) (hv : MS y) (hl : Cond.methodLink own index y ∈ gw) (hst : st0 = As.reverse ++ S) (hn : As.length = n) (hc : CT K y bytes maxL retc rm (As) X Y o1) (hR : RM R rm maxL kc ns) (hS8 : (S.map (fun v => v.category)).sum ≤ 8) (hq : pc + 3 = q) (h : ∀ r X1 Y1, JO K own cc nL ret R kc ns PZ q L (.long r :: S) X1 Y1 (k r X1 Y1)) : JO K own cc nL ret R kc ns PZ pc L st0 X Y (bl o1 k) := by
  intro out ho p l e s m args below meth c H locs ls C hP hS hlo
  subst hq
  have hl0 : ls.size = nL := hlo.1
  obtain ⟨r, X1, Y1, e1, e2⟩ := bl_some ho
  have hM := hc _ e1 l
  obtain ⟨⟨r1, r2⟩, r3, r4⟩ := hR
  have hst2 : st0.map (trV K) = (As.map (trV K)).reverse ++ S.map (trV K) := by rw [hst, List.map_append, List.map_reverse]
  exact w_call (va_runS (As := As.map (trV K)) (rest := S.map (trV K)) ⟨C.ex, C.co, C.ml, C.ow, C.ts⟩ hM (va_cwS n C.ts (gw_good (fun w hw5 => by
    rcases List.mem_append.mp hw5 with h5 | h5
    · simp only [List.mem_cons, List.not_mem_nil, or_false] at h5
      rcases h5 with rfl | rfl | rfl
      · exact hl
      · exact hv
      · exact hw.2.1
    · exact (List.mem_cons.mp h5).elim (fun e5 => by rw [e5]; exact hw.1) (fun h5 => h5))) rfl r1 r2 hw.2.2 r3) ⟨Pk_blind K _ X Y, pre_at C hP hS (As.map (trV K))⟩ rfl (by rw [List.length_map]; exact hn) hl0 hst2 (room8 hS8) hd ⟨r4.1, r4.2⟩) hS (fun H1 locs1 hP1 hS1 => h r X1 Y1 out e2 p l e s m args below meth c H1 locs1 ls C hP1 hS1 hlo)
theorem j_callSv {index : Nat} {y : MethodName} {bytes : ByteArray} {maxL n : Nat} {retc : Option FieldType} {rm : Room} {k : HI → HL → Option Out} (As : List Value) (hd : decode cc pc = .ok (.invokestatic index, 3)) (hw : MW y bytes maxL retc n) (hv : MS y) (hl : Cond.methodLink own index y ∈ gw) (hst : st0 = As.reverse ++ S) (hn : As.length = n) (hc : CT K y bytes maxL retc rm (As) X Y o1) (hR : RM R rm maxL kc ns) (hS8 : (S.map (fun v => v.category)).sum ≤ 8) (hq : pc + 3 = q) (h : ∀ X1 Y1, JO K own cc nL ret R kc ns PZ q L S X1 Y1 (k X1 Y1)) : JO K own cc nL ret R kc ns PZ pc L st0 X Y (bv o1 k) := by
  intro out ho p l e s m args below meth c H locs ls C hP hS hlo
  subst hq
  have hl0 : ls.size = nL := hlo.1
  obtain ⟨X1, Y1, e1, e2⟩ := bv_some ho
  have hM := hc _ e1 l
  obtain ⟨⟨r1, r2⟩, r3, r4⟩ := hR
  have hst2 : st0.map (trV K) = (As.map (trV K)).reverse ++ S.map (trV K) := by rw [hst, List.map_append, List.map_reverse]
  exact w_call (va_runS (As := As.map (trV K)) (rest := S.map (trV K)) ⟨C.ex, C.co, C.ml, C.ow, C.ts⟩ hM (va_cwS n C.ts (gw_good (fun w hw5 => by
    rcases List.mem_append.mp hw5 with h5 | h5
    · simp only [List.mem_cons, List.not_mem_nil, or_false] at h5
      rcases h5 with rfl | rfl | rfl
      · exact hl
      · exact hv
      · exact hw.2.1
    · exact (List.mem_cons.mp h5).elim (fun e5 => by rw [e5]; exact hw.1) (fun h5 => h5))) rfl r1 r2 hw.2.2 r3) ⟨Pk_blind K _ X Y, pre_at C hP hS (As.map (trV K))⟩ rfl (by rw [List.length_map]; exact hn) hl0 hst2 (room8 hS8) hd ⟨r4.1, r4.2⟩) hS (fun H1 locs1 hP1 hS1 => h X1 Y1 out e2 p l e s m args below meth c H1 locs1 ls C hP1 hS1 hlo)
theorem j_callSr {index : Nat} {y : MethodName} {bytes : ByteArray} {maxL n : Nat} {retc : Option FieldType} {rm : Room} {ra : Nat} {k : HI → HL → Option Out} (As : List Value) (hd : decode cc pc = .ok (.invokestatic index, 3)) (hw : MW y bytes maxL retc n) (hv : MS y) (hl : Cond.methodLink own index y ∈ gw) (hst : st0 = As.reverse ++ S) (hn : As.length = n) (hc : CT K y bytes maxL retc rm (As) X Y o1) (hR : RM R rm maxL kc ns) (hS8 : (S.map (fun v => v.category)).sum ≤ 8) (hq : pc + 3 = q) (h : ∀ X1 Y1, JO K own cc nL ret R kc ns PZ q L (.ref ra :: S) X1 Y1 (k X1 Y1)) : JO K own cc nL ret R kc ns PZ pc L st0 X Y (br ra o1 k) := by
  intro out ho p l e s m args below meth c H locs ls C hP hS hlo
  subst hq
  have hl0 : ls.size = nL := hlo.1
  obtain ⟨X1, Y1, e1, e2⟩ := br_some ho
  have hM := hc _ e1 l
  obtain ⟨⟨r1, r2⟩, r3, r4⟩ := hR
  have hst2 : st0.map (trV K) = (As.map (trV K)).reverse ++ S.map (trV K) := by rw [hst, List.map_append, List.map_reverse]
  exact w_call (va_runS (As := As.map (trV K)) (rest := S.map (trV K)) ⟨C.ex, C.co, C.ml, C.ow, C.ts⟩ hM (va_cwS n C.ts (gw_good (fun w hw5 => by
    rcases List.mem_append.mp hw5 with h5 | h5
    · simp only [List.mem_cons, List.not_mem_nil, or_false] at h5
      rcases h5 with rfl | rfl | rfl
      · exact hl
      · exact hv
      · exact hw.2.1
    · exact (List.mem_cons.mp h5).elim (fun e5 => by rw [e5]; exact hw.1) (fun h5 => h5))) rfl r1 r2 hw.2.2 r3) ⟨Pk_blind K _ X Y, pre_at C hP hS (As.map (trV K))⟩ rfl (by rw [List.length_map]; exact hn) hl0 hst2 (room8 hS8) hd ⟨r4.1, r4.2⟩) hS (fun H1 locs1 hP1 hS1 => h X1 Y1 out e2 p l e s m args below meth c H1 locs1 ls C hP1 hS1 hlo)
theorem j_callSNi {index : Nat} {y : MethodName} {bytes : ByteArray} {maxL n : Nat} {retc : Option FieldType} {rm : Room} {k : Int32 → HI → HL → Option Out} (As : List Value) (hd : decode cc pc = .ok (.invokestatic index, 3)) (hw : MW y bytes maxL retc n) (hv : MS y) {host : String} (hl : Cond.methodLinkNest own index y host ∈ nw) (hst : st0 = As.reverse ++ S) (hn : As.length = n) (hc : CT K y bytes maxL retc rm (As) X Y o1) (hR : RM R rm maxL kc ns) (hS8 : (S.map (fun v => v.category)).sum ≤ 8) (hq : pc + 3 = q) (h : ∀ r X1 Y1, JO K own cc nL ret R kc ns PZ q L (.int r :: S) X1 Y1 (k r X1 Y1)) : JO K own cc nL ret R kc ns PZ pc L st0 X Y (bi o1 k) := by
  intro out ho p l e s m args below meth c H locs ls C hP hS hlo
  subst hq
  have hl0 : ls.size = nL := hlo.1
  obtain ⟨r, X1, Y1, e1, e2⟩ := bi_some ho
  have hM := hc _ e1 l
  obtain ⟨⟨r1, r2⟩, r3, r4⟩ := hR
  have hst2 : st0.map (trV K) = (As.map (trV K)).reverse ++ S.map (trV K) := by rw [hst, List.map_append, List.map_reverse]
  exact w_call (va_runSN (As := As.map (trV K)) (rest := S.map (trV K)) ⟨C.ex, C.co, C.ml, C.ow, C.ts⟩ hM ⟨va_cnB n C.ts (gw_good (fun w hw5 => (List.mem_cons.mp hw5).elim (fun e5 => by rw [e5]; exact hw.1) (fun h5 => h5))) rfl r1 r2 (C.ne _ hl) (C.ts _ hw.2.1) hw.2.2 r3, C.ts _ hv, trivial⟩ ⟨Pk_blind K _ X Y, pre_at C hP hS (As.map (trV K))⟩ rfl (by rw [List.length_map]; exact hn) hl0 hst2 (room8 hS8) hd ⟨r4.1, r4.2⟩) hS (fun H1 locs1 hP1 hS1 => h r X1 Y1 out e2 p l e s m args below meth c H1 locs1 ls C hP1 hS1 hlo)
theorem j_callSNl {index : Nat} {y : MethodName} {bytes : ByteArray} {maxL n : Nat} {retc : Option FieldType} {rm : Room} {k : Int64 → HI → HL → Option Out} (As : List Value) (hd : decode cc pc = .ok (.invokestatic index, 3)) (hw : MW y bytes maxL retc n) (hv : MS y) {host : String} (hl : Cond.methodLinkNest own index y host ∈ nw) (hst : st0 = As.reverse ++ S) (hn : As.length = n) (hc : CT K y bytes maxL retc rm (As) X Y o1) (hR : RM R rm maxL kc ns) (hS8 : (S.map (fun v => v.category)).sum ≤ 8) (hq : pc + 3 = q) (h : ∀ r X1 Y1, JO K own cc nL ret R kc ns PZ q L (.long r :: S) X1 Y1 (k r X1 Y1)) : JO K own cc nL ret R kc ns PZ pc L st0 X Y (bl o1 k) := by
  intro out ho p l e s m args below meth c H locs ls C hP hS hlo
  subst hq
  have hl0 : ls.size = nL := hlo.1
  obtain ⟨r, X1, Y1, e1, e2⟩ := bl_some ho
  have hM := hc _ e1 l
  obtain ⟨⟨r1, r2⟩, r3, r4⟩ := hR
  have hst2 : st0.map (trV K) = (As.map (trV K)).reverse ++ S.map (trV K) := by rw [hst, List.map_append, List.map_reverse]
  exact w_call (va_runSN (As := As.map (trV K)) (rest := S.map (trV K)) ⟨C.ex, C.co, C.ml, C.ow, C.ts⟩ hM ⟨va_cnB n C.ts (gw_good (fun w hw5 => (List.mem_cons.mp hw5).elim (fun e5 => by rw [e5]; exact hw.1) (fun h5 => h5))) rfl r1 r2 (C.ne _ hl) (C.ts _ hw.2.1) hw.2.2 r3, C.ts _ hv, trivial⟩ ⟨Pk_blind K _ X Y, pre_at C hP hS (As.map (trV K))⟩ rfl (by rw [List.length_map]; exact hn) hl0 hst2 (room8 hS8) hd ⟨r4.1, r4.2⟩) hS (fun H1 locs1 hP1 hS1 => h r X1 Y1 out e2 p l e s m args below meth c H1 locs1 ls C hP1 hS1 hlo)
theorem j_callSNv {index : Nat} {y : MethodName} {bytes : ByteArray} {maxL n : Nat} {retc : Option FieldType} {rm : Room} {k : HI → HL → Option Out} (As : List Value) (hd : decode cc pc = .ok (.invokestatic index, 3)) (hw : MW y bytes maxL retc n) (hv : MS y) {host : String} (hl : Cond.methodLinkNest own index y host ∈ nw) (hst : st0 = As.reverse ++ S) (hn : As.length = n) (hc : CT K y bytes maxL retc rm (As) X Y o1) (hR : RM R rm maxL kc ns) (hS8 : (S.map (fun v => v.category)).sum ≤ 8) (hq : pc + 3 = q) (h : ∀ X1 Y1, JO K own cc nL ret R kc ns PZ q L S X1 Y1 (k X1 Y1)) : JO K own cc nL ret R kc ns PZ pc L st0 X Y (bv o1 k) := by
  intro out ho p l e s m args below meth c H locs ls C hP hS hlo
  subst hq
  have hl0 : ls.size = nL := hlo.1
  obtain ⟨X1, Y1, e1, e2⟩ := bv_some ho
  have hM := hc _ e1 l
  obtain ⟨⟨r1, r2⟩, r3, r4⟩ := hR
  have hst2 : st0.map (trV K) = (As.map (trV K)).reverse ++ S.map (trV K) := by rw [hst, List.map_append, List.map_reverse]
  exact w_call (va_runSN (As := As.map (trV K)) (rest := S.map (trV K)) ⟨C.ex, C.co, C.ml, C.ow, C.ts⟩ hM ⟨va_cnB n C.ts (gw_good (fun w hw5 => (List.mem_cons.mp hw5).elim (fun e5 => by rw [e5]; exact hw.1) (fun h5 => h5))) rfl r1 r2 (C.ne _ hl) (C.ts _ hw.2.1) hw.2.2 r3, C.ts _ hv, trivial⟩ ⟨Pk_blind K _ X Y, pre_at C hP hS (As.map (trV K))⟩ rfl (by rw [List.length_map]; exact hn) hl0 hst2 (room8 hS8) hd ⟨r4.1, r4.2⟩) hS (fun H1 locs1 hP1 hS1 => h X1 Y1 out e2 p l e s m args below meth c H1 locs1 ls C hP1 hS1 hlo)
theorem j_callSNr {index : Nat} {y : MethodName} {bytes : ByteArray} {maxL n : Nat} {retc : Option FieldType} {rm : Room} {ra : Nat} {k : HI → HL → Option Out} (As : List Value) (hd : decode cc pc = .ok (.invokestatic index, 3)) (hw : MW y bytes maxL retc n) (hv : MS y) {host : String} (hl : Cond.methodLinkNest own index y host ∈ nw) (hst : st0 = As.reverse ++ S) (hn : As.length = n) (hc : CT K y bytes maxL retc rm (As) X Y o1) (hR : RM R rm maxL kc ns) (hS8 : (S.map (fun v => v.category)).sum ≤ 8) (hq : pc + 3 = q) (h : ∀ X1 Y1, JO K own cc nL ret R kc ns PZ q L (.ref ra :: S) X1 Y1 (k X1 Y1)) : JO K own cc nL ret R kc ns PZ pc L st0 X Y (br ra o1 k) := by
  intro out ho p l e s m args below meth c H locs ls C hP hS hlo
  subst hq
  have hl0 : ls.size = nL := hlo.1
  obtain ⟨X1, Y1, e1, e2⟩ := br_some ho
  have hM := hc _ e1 l
  obtain ⟨⟨r1, r2⟩, r3, r4⟩ := hR
  have hst2 : st0.map (trV K) = (As.map (trV K)).reverse ++ S.map (trV K) := by rw [hst, List.map_append, List.map_reverse]
  exact w_call (va_runSN (As := As.map (trV K)) (rest := S.map (trV K)) ⟨C.ex, C.co, C.ml, C.ow, C.ts⟩ hM ⟨va_cnB n C.ts (gw_good (fun w hw5 => (List.mem_cons.mp hw5).elim (fun e5 => by rw [e5]; exact hw.1) (fun h5 => h5))) rfl r1 r2 (C.ne _ hl) (C.ts _ hw.2.1) hw.2.2 r3, C.ts _ hv, trivial⟩ ⟨Pk_blind K _ X Y, pre_at C hP hS (As.map (trV K))⟩ rfl (by rw [List.length_map]; exact hn) hl0 hst2 (room8 hS8) hd ⟨r4.1, r4.2⟩) hS (fun H1 locs1 hP1 hS1 => h X1 Y1 out e2 p l e s m args below meth c H1 locs1 ls C hP1 hS1 hlo)
end JC
end
