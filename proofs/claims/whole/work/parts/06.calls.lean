/-! calls -/
def MW (y : MethodName) (bytes : ByteArray) (maxL : Nat) (ret : Option FieldType) (n : Nat) : Prop := Cond.code y bytes maxL ret ∈ gw ∧ Cond.initialized y.cls ∈ gw ∧ (y.cls ≠ "java/lang/invoke/MethodHandle" ∧ y.cls ≠ "java/lang/invoke/VarHandle" ∧ (parseMethodDescriptor y.desc).map (fun d => d.parameters.length) = some n)
def MV (y : MethodName) : Prop := Cond.instanceMethod y ∈ gw ∧ Cond.selects y.cls y y ∈ gw
def MS (y : MethodName) : Prop := Cond.static y ∈ gw
def OB (a : Nat) (C : String) : Prop := a < 86 ∧ ∃ (ci : Nat) (q : vw_C), kd a = (0, ci) ∧ classes[ci]? = some q ∧ q.1 = C
def RM (R rm : Room) (maxL kc ns : Nat) : Prop := (rm.cells = 0 ∧ rm.slots = 0) ∧ (rm.frames + 1 ≤ R.frames ∧ 8 + (maxL + 11) + rm.locals ≤ R.locals) ∧ (kc ≤ R.cells ∧ ns ≤ R.slots)
theorem gw_good {ws : List Cond} (h : ∀ w ∈ ws, w ∈ gw) : GoodIn gw ws := fun w hw => ⟨h w hw, gw_all w (h w hw)⟩
theorem Pk_blind (K : KK) (av : List Value) (X : HI) (Y : HL) : FrameBlind (va_Pc av (Pk K X Y)) := fun a U g mk q => by
  obtain ⟨q0, qP, qK, qN, qS⟩ := q
  exact ⟨q0, qP, va_K.moved (u := U) (U := U.calling g mk a) (Vm.Alike.refl U.vm) qK, kN.same (u := U) (U := U.calling g mk a) rfl qN, kSt.moved (s := U) (U := U.calling g mk a) (Vm.Alike.refl U.vm) (fun _ _ _ => rfl) qS⟩
theorem bi_some {o : Option Out} {k : Int32 → HI → HL → Option Out} {out : Out} (h : bi o k = some out) : ∃ r X Y, o = some (some (.int r), X, Y) ∧ k r X Y = some out := by
  unfold bi at h
  split at h
  · exact ⟨_, _, _, rfl, h⟩
  · cases h
theorem bl_some {o : Option Out} {k : Int64 → HI → HL → Option Out} {out : Out} (h : bl o k = some out) : ∃ r X Y, o = some (some (.long r), X, Y) ∧ k r X Y = some out := by
  unfold bl at h
  split at h
  · exact ⟨_, _, _, rfl, h⟩
  · cases h
theorem bv_some {o : Option Out} {k : HI → HL → Option Out} {out : Out} (h : bv o k = some out) : ∃ X Y, o = some (none, X, Y) ∧ k X Y = some out := by
  unfold bv at h
  split at h
  · exact ⟨_, _, rfl, h⟩
  · cases h
theorem br_some {n : Nat} {o : Option Out} {k : HI → HL → Option Out} {out : Out} (h : br n o k = some out) : ∃ X Y, o = some (some (.ref n), X, Y) ∧ k X Y = some out := by
  unfold br at h
  split at h
  · split at h
    · next e => subst e; exact ⟨_, _, rfl, h⟩
    · cases h
  · cases h
theorem mm_min : Cond.static Lib.Math.min.name ∈ gw ∧ Cond.initialized "java/lang/Math" ∈ gw ∧ Cond.code Lib.Math.min.name Lib.Math.min.code 2 (some .int) ∈ gw := ⟨gw_t 329 (by decide +kernel) (by decide +kernel), gw_t 8 (by decide +kernel) (by decide +kernel), gw_t 330 (by decide +kernel) (by decide +kernel)⟩
theorem mm_max : Cond.static Lib.Math.max.name ∈ gw ∧ Cond.initialized "java/lang/Math" ∈ gw ∧ Cond.code Lib.Math.max.name Lib.Math.max.code 2 (some .int) ∈ gw := ⟨gw_t 341 (by decide +kernel) (by decide +kernel), gw_t 8 (by decide +kernel) (by decide +kernel), gw_t 342 (by decide +kernel) (by decide +kernel)⟩
theorem mm_abs : Cond.static Lib.Math.abs.name ∈ gw ∧ Cond.initialized "java/lang/Math" ∈ gw ∧ Cond.code Lib.Math.abs.name Lib.Math.abs.code 1 (some .int) ∈ gw := ⟨gw_t 463 (by decide +kernel) (by decide +kernel), gw_t 8 (by decide +kernel) (by decide +kernel), gw_t 464 (by decide +kernel) (by decide +kernel)⟩
section JC
variable {K : KK} {own : String} {cc : ByteArray} {nL : Nat} {ret : Option FieldType} {R : Room} {kc ns : Nat} {PZ : PZT} {pc q : Nat} {L L' : List (Option Value)} {S st0 : List Value} {X : HI} {Y : HL} {o o1 o2 : Option Out}
theorem w_call {p : Program} {l : Launch} {e : Env} {s : State} {m : MethodId} {args : Array Value} {below : List Frame} {meth : Method} {c : Code} {H H0 : Heap} {locs : List Loc} {cells slots : Nat} {Q : State → Prop} {ls : Array Slot} {sT rest : List Value} {a : Array Value} {out1 : Out}
    (hr : va_Run p l e R s m args below meth c H locs cells slots 0 0 (F0 m pc ls sT) rest (QcO K out1 a) (kA K)) (hS : va_S (kA K) H0 H locs)
    (kk : ∀ (H1 : Heap) (locs1 : List Loc), va_P (kD K) classes (wsOf K out1.2.1 out1.2.2) H1 → va_S (kA K) H0 H1 locs1 → W p l e R s m args below meth c H1 locs1 cells slots Q (F0 m (pc + 3) ls ((out1.1.map (trV K)).toList ++ rest))) : W p l e R s m args below meth c H locs cells slots Q (F0 m pc ls sT) := by
  intro T hT X
  obtain ⟨v, st₀, t, T', L, h0, X', hL, e1, e2, ⟨⟨hv, hp⟩, hz, hk⟩, st⟩ := hr T hT X
  cases hv
  rw [h0] at hz hk
  obtain ⟨t2, a1, b1⟩ := kk T'.heap (locs ++ L) (by rw [e1]; exact hp)
    ⟨Nat.le_trans hS.1 (by rw [e1]; exact hz), fun q h1 h2 => by rw [e1, hk q (Nat.lt_of_lt_of_le h1 hS.1) h2]; exact hS.2.1 q h1 h2, fun q hq => by
      rcases List.mem_append.mp hq with h | h
      · exact hS.2.2 q h
      · exact hL q h⟩ T' rfl X'
  exact ⟨t2, st t2 a1, b1⟩
theorem pre_at {p : Program} {s : State} {m : MethodId} {args : Array Value} {meth : Method} {c : Code} {H : Heap} {locs : List Loc} (C : Cx K own cc nL ret p s m args meth c) (hP : va_P (kD K) classes (wsOf K X Y) H) (hS : va_S (kA K) s.heap H locs) (av : List Value) : ∀ U : State, U.heap = H → s.WarmedH U.vm → va_Pc av (Pk K X Y) av.toArray U :=
  fun U hU hW => ⟨rfl, by rw [hU]; exact hP, va_K.moved hW.alike C.ka, C.ne.warm hW, kSt.moved hW.alike (fun q h1 h2 => by rw [hU]; exact hS.2.1 q h1 h2) C.st⟩
theorem room8 {m : MethodId} {ls : Array Slot} {g : List Value} (hS8 : (S.map (fun v => v.category)).sum ≤ 8) : 2 * (F0 m pc ls g).monitorRoom + ((S.map (trV K)).map (fun v => v.category)).sum ≤ 8 :=
  lv_room (by
    rw [List.map_map]
    have e : List.map ((fun v => v.category) ∘ trV K) S = S.map (fun v => v.category) := List.map_congr_left (fun v _ => trV_cat K v)
    rw [e]; exact hS8)
theorem j_callVi {index : Nat} {y : MethodName} {bytes : ByteArray} {maxL n : Nat} {retc : Option FieldType} {rm : Room} {a : Nat} {k : Int32 → HI → HL → Option Out} (As : List Value) (hd : decode cc pc = .ok (.invokevirtual index, 3)) (hw : MW y bytes maxL retc n) (hv : MV y) (hl : Cond.methodLink own index y ∈ gw) (hob : OB a y.cls) (hst : st0 = As.reverse ++ .ref a :: S) (hn : As.length = n) (hc : CT K y bytes maxL retc rm (.ref a :: As) X Y o1) (hR : RM R rm maxL kc ns) (hS8 : (S.map (fun v => v.category)).sum ≤ 8) (hq : pc + 3 = q) (h : ∀ r X1 Y1, JO K own cc nL ret R kc ns PZ q L (.int r :: S) X1 Y1 (k r X1 Y1)) : JO K own cc nL ret R kc ns PZ pc L st0 X Y (bi o1 k) := by
  intro out ho p l e s m args below meth c H locs ls C hP hS hlo
  subst hq
  have hl0 : ls.size = nL := hlo.1
  obtain ⟨r, X1, Y1, e1, e2⟩ := bi_some ho
  have hM := hc _ e1 l
  obtain ⟨⟨r1, r2⟩, r3, r4⟩ := hR
  obtain ⟨oa, ci, q5, ob, oc, od⟩ := hob
  have hat : (wsOf K X Y)[a]? = some (kad K a, .inr (ci, (fB (X a) (Y a) a).map (trV K))) := by rw [ws_at oa, cB_o ob]
  have hrecv := va_recv C.ka hP oc hat
  rw [od] at hrecv
  have hst2 : st0.map (trV K) = (As.map (trV K)).reverse ++ .ref (kad K a) :: S.map (trV K) := by rw [hst, List.map_append, List.map_reverse]; rfl
  exact w_call (va_runV (As := As.map (trV K)) (rest := S.map (trV K)) ⟨C.ex, C.co, C.ml, C.ow, C.ts⟩ hM (cwV n C.ts (gw_good (fun w hw5 => by
    rcases List.mem_append.mp hw5 with h5 | h5
    · simp only [List.mem_cons, List.not_mem_nil, or_false] at h5
      rcases h5 with rfl | rfl | rfl | rfl
      · exact hl
      · exact hv.1
      · exact hv.2
      · exact hw.2.1
    · exact (List.mem_cons.mp h5).elim (fun e5 => by rw [e5]; exact hw.1) (fun h5 => h5))) rfl r1 r2 ⟨rfl, hw.2.2⟩ r3) ⟨Pk_blind K _ X Y, hrecv, pre_at C hP hS (.ref (kad K a) :: As.map (trV K))⟩ rfl (by rw [List.length_map]; exact hn) hl0 hst2 (room8 hS8) hd ⟨r4.1, r4.2⟩) hS (fun H1 locs1 hP1 hS1 => h r X1 Y1 out e2 p l e s m args below meth c H1 locs1 ls C hP1 hS1 hlo)
theorem j_callVl {index : Nat} {y : MethodName} {bytes : ByteArray} {maxL n : Nat} {retc : Option FieldType} {rm : Room} {a : Nat} {k : Int64 → HI → HL → Option Out} (As : List Value) (hd : decode cc pc = .ok (.invokevirtual index, 3)) (hw : MW y bytes maxL retc n) (hv : MV y) (hl : Cond.methodLink own index y ∈ gw) (hob : OB a y.cls) (hst : st0 = As.reverse ++ .ref a :: S) (hn : As.length = n) (hc : CT K y bytes maxL retc rm (.ref a :: As) X Y o1) (hR : RM R rm maxL kc ns) (hS8 : (S.map (fun v => v.category)).sum ≤ 8) (hq : pc + 3 = q) (h : ∀ r X1 Y1, JO K own cc nL ret R kc ns PZ q L (.long r :: S) X1 Y1 (k r X1 Y1)) : JO K own cc nL ret R kc ns PZ pc L st0 X Y (bl o1 k) := by
  intro out ho p l e s m args below meth c H locs ls C hP hS hlo
  subst hq
  have hl0 : ls.size = nL := hlo.1
  obtain ⟨r, X1, Y1, e1, e2⟩ := bl_some ho
  have hM := hc _ e1 l
  obtain ⟨⟨r1, r2⟩, r3, r4⟩ := hR
  obtain ⟨oa, ci, q5, ob, oc, od⟩ := hob
  have hat : (wsOf K X Y)[a]? = some (kad K a, .inr (ci, (fB (X a) (Y a) a).map (trV K))) := by rw [ws_at oa, cB_o ob]
  have hrecv := va_recv C.ka hP oc hat
  rw [od] at hrecv
  have hst2 : st0.map (trV K) = (As.map (trV K)).reverse ++ .ref (kad K a) :: S.map (trV K) := by rw [hst, List.map_append, List.map_reverse]; rfl
  exact w_call (va_runV (As := As.map (trV K)) (rest := S.map (trV K)) ⟨C.ex, C.co, C.ml, C.ow, C.ts⟩ hM (cwV n C.ts (gw_good (fun w hw5 => by
    rcases List.mem_append.mp hw5 with h5 | h5
    · simp only [List.mem_cons, List.not_mem_nil, or_false] at h5
      rcases h5 with rfl | rfl | rfl | rfl
      · exact hl
      · exact hv.1
      · exact hv.2
      · exact hw.2.1
    · exact (List.mem_cons.mp h5).elim (fun e5 => by rw [e5]; exact hw.1) (fun h5 => h5))) rfl r1 r2 ⟨rfl, hw.2.2⟩ r3) ⟨Pk_blind K _ X Y, hrecv, pre_at C hP hS (.ref (kad K a) :: As.map (trV K))⟩ rfl (by rw [List.length_map]; exact hn) hl0 hst2 (room8 hS8) hd ⟨r4.1, r4.2⟩) hS (fun H1 locs1 hP1 hS1 => h r X1 Y1 out e2 p l e s m args below meth c H1 locs1 ls C hP1 hS1 hlo)
theorem j_callVv {index : Nat} {y : MethodName} {bytes : ByteArray} {maxL n : Nat} {retc : Option FieldType} {rm : Room} {a : Nat} {k : HI → HL → Option Out} (As : List Value) (hd : decode cc pc = .ok (.invokevirtual index, 3)) (hw : MW y bytes maxL retc n) (hv : MV y) (hl : Cond.methodLink own index y ∈ gw) (hob : OB a y.cls) (hst : st0 = As.reverse ++ .ref a :: S) (hn : As.length = n) (hc : CT K y bytes maxL retc rm (.ref a :: As) X Y o1) (hR : RM R rm maxL kc ns) (hS8 : (S.map (fun v => v.category)).sum ≤ 8) (hq : pc + 3 = q) (h : ∀ X1 Y1, JO K own cc nL ret R kc ns PZ q L S X1 Y1 (k X1 Y1)) : JO K own cc nL ret R kc ns PZ pc L st0 X Y (bv o1 k) := by
  intro out ho p l e s m args below meth c H locs ls C hP hS hlo
  subst hq
  have hl0 : ls.size = nL := hlo.1
  obtain ⟨X1, Y1, e1, e2⟩ := bv_some ho
  have hM := hc _ e1 l
  obtain ⟨⟨r1, r2⟩, r3, r4⟩ := hR
  obtain ⟨oa, ci, q5, ob, oc, od⟩ := hob
  have hat : (wsOf K X Y)[a]? = some (kad K a, .inr (ci, (fB (X a) (Y a) a).map (trV K))) := by rw [ws_at oa, cB_o ob]
  have hrecv := va_recv C.ka hP oc hat
  rw [od] at hrecv
  have hst2 : st0.map (trV K) = (As.map (trV K)).reverse ++ .ref (kad K a) :: S.map (trV K) := by rw [hst, List.map_append, List.map_reverse]; rfl
  exact w_call (va_runV (As := As.map (trV K)) (rest := S.map (trV K)) ⟨C.ex, C.co, C.ml, C.ow, C.ts⟩ hM (cwV n C.ts (gw_good (fun w hw5 => by
    rcases List.mem_append.mp hw5 with h5 | h5
    · simp only [List.mem_cons, List.not_mem_nil, or_false] at h5
      rcases h5 with rfl | rfl | rfl | rfl
      · exact hl
      · exact hv.1
      · exact hv.2
      · exact hw.2.1
    · exact (List.mem_cons.mp h5).elim (fun e5 => by rw [e5]; exact hw.1) (fun h5 => h5))) rfl r1 r2 ⟨rfl, hw.2.2⟩ r3) ⟨Pk_blind K _ X Y, hrecv, pre_at C hP hS (.ref (kad K a) :: As.map (trV K))⟩ rfl (by rw [List.length_map]; exact hn) hl0 hst2 (room8 hS8) hd ⟨r4.1, r4.2⟩) hS (fun H1 locs1 hP1 hS1 => h X1 Y1 out e2 p l e s m args below meth c H1 locs1 ls C hP1 hS1 hlo)
theorem j_callVr {index : Nat} {y : MethodName} {bytes : ByteArray} {maxL n : Nat} {retc : Option FieldType} {rm : Room} {a : Nat} {ra : Nat} {k : HI → HL → Option Out} (As : List Value) (hd : decode cc pc = .ok (.invokevirtual index, 3)) (hw : MW y bytes maxL retc n) (hv : MV y) (hl : Cond.methodLink own index y ∈ gw) (hob : OB a y.cls) (hst : st0 = As.reverse ++ .ref a :: S) (hn : As.length = n) (hc : CT K y bytes maxL retc rm (.ref a :: As) X Y o1) (hR : RM R rm maxL kc ns) (hS8 : (S.map (fun v => v.category)).sum ≤ 8) (hq : pc + 3 = q) (h : ∀ X1 Y1, JO K own cc nL ret R kc ns PZ q L (.ref ra :: S) X1 Y1 (k X1 Y1)) : JO K own cc nL ret R kc ns PZ pc L st0 X Y (br ra o1 k) := by
  intro out ho p l e s m args below meth c H locs ls C hP hS hlo
  subst hq
  have hl0 : ls.size = nL := hlo.1
  obtain ⟨X1, Y1, e1, e2⟩ := br_some ho
  have hM := hc _ e1 l
  obtain ⟨⟨r1, r2⟩, r3, r4⟩ := hR
  obtain ⟨oa, ci, q5, ob, oc, od⟩ := hob
  have hat : (wsOf K X Y)[a]? = some (kad K a, .inr (ci, (fB (X a) (Y a) a).map (trV K))) := by rw [ws_at oa, cB_o ob]
  have hrecv := va_recv C.ka hP oc hat
  rw [od] at hrecv
  have hst2 : st0.map (trV K) = (As.map (trV K)).reverse ++ .ref (kad K a) :: S.map (trV K) := by rw [hst, List.map_append, List.map_reverse]; rfl
  exact w_call (va_runV (As := As.map (trV K)) (rest := S.map (trV K)) ⟨C.ex, C.co, C.ml, C.ow, C.ts⟩ hM (cwV n C.ts (gw_good (fun w hw5 => by
    rcases List.mem_append.mp hw5 with h5 | h5
    · simp only [List.mem_cons, List.not_mem_nil, or_false] at h5
      rcases h5 with rfl | rfl | rfl | rfl
      · exact hl
      · exact hv.1
      · exact hv.2
      · exact hw.2.1
    · exact (List.mem_cons.mp h5).elim (fun e5 => by rw [e5]; exact hw.1) (fun h5 => h5))) rfl r1 r2 ⟨rfl, hw.2.2⟩ r3) ⟨Pk_blind K _ X Y, hrecv, pre_at C hP hS (.ref (kad K a) :: As.map (trV K))⟩ rfl (by rw [List.length_map]; exact hn) hl0 hst2 (room8 hS8) hd ⟨r4.1, r4.2⟩) hS (fun H1 locs1 hP1 hS1 => h X1 Y1 out e2 p l e s m args below meth c H1 locs1 ls C hP1 hS1 hlo)
theorem j_callVNi {index : Nat} {y : MethodName} {bytes : ByteArray} {maxL n : Nat} {retc : Option FieldType} {rm : Room} {a : Nat} {k : Int32 → HI → HL → Option Out} (As : List Value) (hd : decode cc pc = .ok (.invokevirtual index, 3)) (hw : MW y bytes maxL retc n) (hv : MV y) {host : String} (hl : Cond.methodLinkNest own index y host ∈ nw) (hob : OB a y.cls) (hst : st0 = As.reverse ++ .ref a :: S) (hn : As.length = n) (hc : CT K y bytes maxL retc rm (.ref a :: As) X Y o1) (hR : RM R rm maxL kc ns) (hS8 : (S.map (fun v => v.category)).sum ≤ 8) (hq : pc + 3 = q) (h : ∀ r X1 Y1, JO K own cc nL ret R kc ns PZ q L (.int r :: S) X1 Y1 (k r X1 Y1)) : JO K own cc nL ret R kc ns PZ pc L st0 X Y (bi o1 k) := by
  intro out ho p l e s m args below meth c H locs ls C hP hS hlo
  subst hq
  have hl0 : ls.size = nL := hlo.1
  obtain ⟨r, X1, Y1, e1, e2⟩ := bi_some ho
  have hM := hc _ e1 l
  obtain ⟨⟨r1, r2⟩, r3, r4⟩ := hR
  obtain ⟨oa, ci, q5, ob, oc, od⟩ := hob
  have hat : (wsOf K X Y)[a]? = some (kad K a, .inr (ci, (fB (X a) (Y a) a).map (trV K))) := by rw [ws_at oa, cB_o ob]
  have hrecv := va_recv C.ka hP oc hat
  rw [od] at hrecv
  have hst2 : st0.map (trV K) = (As.map (trV K)).reverse ++ .ref (kad K a) :: S.map (trV K) := by rw [hst, List.map_append, List.map_reverse]; rfl
  exact w_call (va_runVN (As := As.map (trV K)) (rest := S.map (trV K)) ⟨C.ex, C.co, C.ml, C.ow, C.ts⟩ hM ⟨va_cnB n C.ts (gw_good (fun w hw5 => (List.mem_cons.mp hw5).elim (fun e5 => by rw [e5]; exact hw.1) (fun h5 => h5))) rfl r1 r2 (C.ne _ hl) (C.ts _ hw.2.1) hw.2.2 r3, C.ts _ hv.1, C.ts _ hv.2⟩ ⟨Pk_blind K _ X Y, hrecv, pre_at C hP hS (.ref (kad K a) :: As.map (trV K))⟩ rfl (by rw [List.length_map]; exact hn) hl0 hst2 (room8 hS8) hd ⟨r4.1, r4.2⟩) hS (fun H1 locs1 hP1 hS1 => h r X1 Y1 out e2 p l e s m args below meth c H1 locs1 ls C hP1 hS1 hlo)
theorem j_callVNl {index : Nat} {y : MethodName} {bytes : ByteArray} {maxL n : Nat} {retc : Option FieldType} {rm : Room} {a : Nat} {k : Int64 → HI → HL → Option Out} (As : List Value) (hd : decode cc pc = .ok (.invokevirtual index, 3)) (hw : MW y bytes maxL retc n) (hv : MV y) {host : String} (hl : Cond.methodLinkNest own index y host ∈ nw) (hob : OB a y.cls) (hst : st0 = As.reverse ++ .ref a :: S) (hn : As.length = n) (hc : CT K y bytes maxL retc rm (.ref a :: As) X Y o1) (hR : RM R rm maxL kc ns) (hS8 : (S.map (fun v => v.category)).sum ≤ 8) (hq : pc + 3 = q) (h : ∀ r X1 Y1, JO K own cc nL ret R kc ns PZ q L (.long r :: S) X1 Y1 (k r X1 Y1)) : JO K own cc nL ret R kc ns PZ pc L st0 X Y (bl o1 k) := by
  intro out ho p l e s m args below meth c H locs ls C hP hS hlo
  subst hq
  have hl0 : ls.size = nL := hlo.1
  obtain ⟨r, X1, Y1, e1, e2⟩ := bl_some ho
  have hM := hc _ e1 l
  obtain ⟨⟨r1, r2⟩, r3, r4⟩ := hR
  obtain ⟨oa, ci, q5, ob, oc, od⟩ := hob
  have hat : (wsOf K X Y)[a]? = some (kad K a, .inr (ci, (fB (X a) (Y a) a).map (trV K))) := by rw [ws_at oa, cB_o ob]
  have hrecv := va_recv C.ka hP oc hat
  rw [od] at hrecv
  have hst2 : st0.map (trV K) = (As.map (trV K)).reverse ++ .ref (kad K a) :: S.map (trV K) := by rw [hst, List.map_append, List.map_reverse]; rfl
  exact w_call (va_runVN (As := As.map (trV K)) (rest := S.map (trV K)) ⟨C.ex, C.co, C.ml, C.ow, C.ts⟩ hM ⟨va_cnB n C.ts (gw_good (fun w hw5 => (List.mem_cons.mp hw5).elim (fun e5 => by rw [e5]; exact hw.1) (fun h5 => h5))) rfl r1 r2 (C.ne _ hl) (C.ts _ hw.2.1) hw.2.2 r3, C.ts _ hv.1, C.ts _ hv.2⟩ ⟨Pk_blind K _ X Y, hrecv, pre_at C hP hS (.ref (kad K a) :: As.map (trV K))⟩ rfl (by rw [List.length_map]; exact hn) hl0 hst2 (room8 hS8) hd ⟨r4.1, r4.2⟩) hS (fun H1 locs1 hP1 hS1 => h r X1 Y1 out e2 p l e s m args below meth c H1 locs1 ls C hP1 hS1 hlo)
theorem j_callVNv {index : Nat} {y : MethodName} {bytes : ByteArray} {maxL n : Nat} {retc : Option FieldType} {rm : Room} {a : Nat} {k : HI → HL → Option Out} (As : List Value) (hd : decode cc pc = .ok (.invokevirtual index, 3)) (hw : MW y bytes maxL retc n) (hv : MV y) {host : String} (hl : Cond.methodLinkNest own index y host ∈ nw) (hob : OB a y.cls) (hst : st0 = As.reverse ++ .ref a :: S) (hn : As.length = n) (hc : CT K y bytes maxL retc rm (.ref a :: As) X Y o1) (hR : RM R rm maxL kc ns) (hS8 : (S.map (fun v => v.category)).sum ≤ 8) (hq : pc + 3 = q) (h : ∀ X1 Y1, JO K own cc nL ret R kc ns PZ q L S X1 Y1 (k X1 Y1)) : JO K own cc nL ret R kc ns PZ pc L st0 X Y (bv o1 k) := by
  intro out ho p l e s m args below meth c H locs ls C hP hS hlo
  subst hq
  have hl0 : ls.size = nL := hlo.1
  obtain ⟨X1, Y1, e1, e2⟩ := bv_some ho
  have hM := hc _ e1 l
  obtain ⟨⟨r1, r2⟩, r3, r4⟩ := hR
  obtain ⟨oa, ci, q5, ob, oc, od⟩ := hob
  have hat : (wsOf K X Y)[a]? = some (kad K a, .inr (ci, (fB (X a) (Y a) a).map (trV K))) := by rw [ws_at oa, cB_o ob]
  have hrecv := va_recv C.ka hP oc hat
  rw [od] at hrecv
  have hst2 : st0.map (trV K) = (As.map (trV K)).reverse ++ .ref (kad K a) :: S.map (trV K) := by rw [hst, List.map_append, List.map_reverse]; rfl
  exact w_call (va_runVN (As := As.map (trV K)) (rest := S.map (trV K)) ⟨C.ex, C.co, C.ml, C.ow, C.ts⟩ hM ⟨va_cnB n C.ts (gw_good (fun w hw5 => (List.mem_cons.mp hw5).elim (fun e5 => by rw [e5]; exact hw.1) (fun h5 => h5))) rfl r1 r2 (C.ne _ hl) (C.ts _ hw.2.1) hw.2.2 r3, C.ts _ hv.1, C.ts _ hv.2⟩ ⟨Pk_blind K _ X Y, hrecv, pre_at C hP hS (.ref (kad K a) :: As.map (trV K))⟩ rfl (by rw [List.length_map]; exact hn) hl0 hst2 (room8 hS8) hd ⟨r4.1, r4.2⟩) hS (fun H1 locs1 hP1 hS1 => h X1 Y1 out e2 p l e s m args below meth c H1 locs1 ls C hP1 hS1 hlo)
theorem j_callVNr {index : Nat} {y : MethodName} {bytes : ByteArray} {maxL n : Nat} {retc : Option FieldType} {rm : Room} {a : Nat} {ra : Nat} {k : HI → HL → Option Out} (As : List Value) (hd : decode cc pc = .ok (.invokevirtual index, 3)) (hw : MW y bytes maxL retc n) (hv : MV y) {host : String} (hl : Cond.methodLinkNest own index y host ∈ nw) (hob : OB a y.cls) (hst : st0 = As.reverse ++ .ref a :: S) (hn : As.length = n) (hc : CT K y bytes maxL retc rm (.ref a :: As) X Y o1) (hR : RM R rm maxL kc ns) (hS8 : (S.map (fun v => v.category)).sum ≤ 8) (hq : pc + 3 = q) (h : ∀ X1 Y1, JO K own cc nL ret R kc ns PZ q L (.ref ra :: S) X1 Y1 (k X1 Y1)) : JO K own cc nL ret R kc ns PZ pc L st0 X Y (br ra o1 k) := by
  intro out ho p l e s m args below meth c H locs ls C hP hS hlo
  subst hq
  have hl0 : ls.size = nL := hlo.1
  obtain ⟨X1, Y1, e1, e2⟩ := br_some ho
  have hM := hc _ e1 l
  obtain ⟨⟨r1, r2⟩, r3, r4⟩ := hR
  obtain ⟨oa, ci, q5, ob, oc, od⟩ := hob
  have hat : (wsOf K X Y)[a]? = some (kad K a, .inr (ci, (fB (X a) (Y a) a).map (trV K))) := by rw [ws_at oa, cB_o ob]
  have hrecv := va_recv C.ka hP oc hat
  rw [od] at hrecv
  have hst2 : st0.map (trV K) = (As.map (trV K)).reverse ++ .ref (kad K a) :: S.map (trV K) := by rw [hst, List.map_append, List.map_reverse]; rfl
  exact w_call (va_runVN (As := As.map (trV K)) (rest := S.map (trV K)) ⟨C.ex, C.co, C.ml, C.ow, C.ts⟩ hM ⟨va_cnB n C.ts (gw_good (fun w hw5 => (List.mem_cons.mp hw5).elim (fun e5 => by rw [e5]; exact hw.1) (fun h5 => h5))) rfl r1 r2 (C.ne _ hl) (C.ts _ hw.2.1) hw.2.2 r3, C.ts _ hv.1, C.ts _ hv.2⟩ ⟨Pk_blind K _ X Y, hrecv, pre_at C hP hS (.ref (kad K a) :: As.map (trV K))⟩ rfl (by rw [List.length_map]; exact hn) hl0 hst2 (room8 hS8) hd ⟨r4.1, r4.2⟩) hS (fun H1 locs1 hP1 hS1 => h X1 Y1 out e2 p l e s m args below meth c H1 locs1 ls C hP1 hS1 hlo)
theorem j_callSi {index : Nat} {y : MethodName} {bytes : ByteArray} {maxL n : Nat} {retc : Option FieldType} {rm : Room} {k : Int32 → HI → HL → Option Out} (As : List Value) (hd : decode cc pc = .ok (.invokestatic index, 3)) (hw : MW y bytes maxL retc n) (hv : MS y) (hl : Cond.methodLink own index y ∈ gw) (hst : st0 = As.reverse ++ S) (hn : As.length = n) (hc : CT K y bytes maxL retc rm (As) X Y o1) (hR : RM R rm maxL kc ns) (hS8 : (S.map (fun v => v.category)).sum ≤ 8) (hq : pc + 3 = q) (h : ∀ r X1 Y1, JO K own cc nL ret R kc ns PZ q L (.int r :: S) X1 Y1 (k r X1 Y1)) : JO K own cc nL ret R kc ns PZ pc L st0 X Y (bi o1 k) := by
  intro out ho p l e s m args below meth c H locs ls C hP hS hlo
  subst hq
  have hl0 : ls.size = nL := hlo.1
  obtain ⟨r, X1, Y1, e1, e2⟩ := bi_some ho
  have hM := hc _ e1 l
  obtain ⟨⟨r1, r2⟩, r3, r4⟩ := hR
  have hst2 : st0.map (trV K) = (As.map (trV K)).reverse ++ S.map (trV K) := by rw [hst, List.map_append, List.map_reverse]
  exact w_call (va_runS (As := As.map (trV K)) (rest := S.map (trV K)) ⟨C.ex, C.co, C.ml, C.ow, C.ts⟩ hM (va_cwS n C.ts (gw_good (fun w hw5 => by
    rcases List.mem_append.mp hw5 with h5 | h5
    · simp only [List.mem_cons, List.not_mem_nil, or_false] at h5
      rcases h5 with rfl | rfl | rfl
      · exact hl
      · exact hv
      · exact hw.2.1
    · exact (List.mem_cons.mp h5).elim (fun e5 => by rw [e5]; exact hw.1) (fun h5 => h5))) rfl r1 r2 hw.2.2 r3) ⟨Pk_blind K _ X Y, pre_at C hP hS (As.map (trV K))⟩ rfl (by rw [List.length_map]; exact hn) hl0 hst2 (room8 hS8) hd ⟨r4.1, r4.2⟩) hS (fun H1 locs1 hP1 hS1 => h r X1 Y1 out e2 p l e s m args below meth c H1 locs1 ls C hP1 hS1 hlo)
theorem j_callSl {index : Nat} {y : MethodName} {bytes : ByteArray} {maxL n : Nat} {retc : Option FieldType} {rm : Room} {k : Int64 → HI → HL → Option Out} (As : List Value) (hd : decode cc pc = .ok (.invokestatic index, 3)) (hw : MW y bytes maxL retc n) (hv : MS y) (hl : Cond.methodLink own index y ∈ gw) (hst : st0 = As.reverse ++ S) (hn : As.length = n) (hc : CT K y bytes maxL retc rm (As) X Y o1) (hR : RM R rm maxL kc ns) (hS8 : (S.map (fun v => v.category)).sum ≤ 8) (hq : pc + 3 = q) (h : ∀ r X1 Y1, JO K own cc nL ret R kc ns PZ q L (.long r :: S) X1 Y1 (k r X1 Y1)) : JO K own cc nL ret R kc ns PZ pc L st0 X Y (bl o1 k) := by
  intro out ho p l e s m args below meth c H locs ls C hP hS hlo
  subst hq
  have hl0 : ls.size = nL := hlo.1
  obtain ⟨r, X1, Y1, e1, e2⟩ := bl_some ho
  have hM := hc _ e1 l
  obtain ⟨⟨r1, r2⟩, r3, r4⟩ := hR
  have hst2 : st0.map (trV K) = (As.map (trV K)).reverse ++ S.map (trV K) := by rw [hst, List.map_append, List.map_reverse]
  exact w_call (va_runS (As := As.map (trV K)) (rest := S.map (trV K)) ⟨C.ex, C.co, C.ml, C.ow, C.ts⟩ hM (va_cwS n C.ts (gw_good (fun w hw5 => by
    rcases List.mem_append.mp hw5 with h5 | h5
    · simp only [List.mem_cons, List.not_mem_nil, or_false] at h5
      rcases h5 with rfl | rfl | rfl
      · exact hl
      · exact hv
      · exact hw.2.1
    · exact (List.mem_cons.mp h5).elim (fun e5 => by rw [e5]; exact hw.1) (fun h5 => h5))) rfl r1 r2 hw.2.2 r3) ⟨Pk_blind K _ X Y, pre_at C hP hS (As.map (trV K))⟩ rfl (by rw [List.length_map]; exact hn) hl0 hst2 (room8 hS8) hd ⟨r4.1, r4.2⟩) hS (fun H1 locs1 hP1 hS1 => h r X1 Y1 out e2 p l e s m args below meth c H1 locs1 ls C hP1 hS1 hlo)
theorem j_callSv {index : Nat} {y : MethodName} {bytes : ByteArray} {maxL n : Nat} {retc : Option FieldType} {rm : Room} {k : HI → HL → Option Out} (As : List Value) (hd : decode cc pc = .ok (.invokestatic index, 3)) (hw : MW y bytes maxL retc n) (hv : MS y) (hl : Cond.methodLink own index y ∈ gw) (hst : st0 = As.reverse ++ S) (hn : As.length = n) (hc : CT K y bytes maxL retc rm (As) X Y o1) (hR : RM R rm maxL kc ns) (hS8 : (S.map (fun v => v.category)).sum ≤ 8) (hq : pc + 3 = q) (h : ∀ X1 Y1, JO K own cc nL ret R kc ns PZ q L S X1 Y1 (k X1 Y1)) : JO K own cc nL ret R kc ns PZ pc L st0 X Y (bv o1 k) := by
  intro out ho p l e s m args below meth c H locs ls C hP hS hlo
  subst hq
  have hl0 : ls.size = nL := hlo.1
  obtain ⟨X1, Y1, e1, e2⟩ := bv_some ho
  have hM := hc _ e1 l
  obtain ⟨⟨r1, r2⟩, r3, r4⟩ := hR
  have hst2 : st0.map (trV K) = (As.map (trV K)).reverse ++ S.map (trV K) := by rw [hst, List.map_append, List.map_reverse]
  exact w_call (va_runS (As := As.map (trV K)) (rest := S.map (trV K)) ⟨C.ex, C.co, C.ml, C.ow, C.ts⟩ hM (va_cwS n C.ts (gw_good (fun w hw5 => by
    rcases List.mem_append.mp hw5 with h5 | h5
    · simp only [List.mem_cons, List.not_mem_nil, or_false] at h5
      rcases h5 with rfl | rfl | rfl
      · exact hl
      · exact hv
      · exact hw.2.1
    · exact (List.mem_cons.mp h5).elim (fun e5 => by rw [e5]; exact hw.1) (fun h5 => h5))) rfl r1 r2 hw.2.2 r3) ⟨Pk_blind K _ X Y, pre_at C hP hS (As.map (trV K))⟩ rfl (by rw [List.length_map]; exact hn) hl0 hst2 (room8 hS8) hd ⟨r4.1, r4.2⟩) hS (fun H1 locs1 hP1 hS1 => h X1 Y1 out e2 p l e s m args below meth c H1 locs1 ls C hP1 hS1 hlo)
theorem j_callSr {index : Nat} {y : MethodName} {bytes : ByteArray} {maxL n : Nat} {retc : Option FieldType} {rm : Room} {ra : Nat} {k : HI → HL → Option Out} (As : List Value) (hd : decode cc pc = .ok (.invokestatic index, 3)) (hw : MW y bytes maxL retc n) (hv : MS y) (hl : Cond.methodLink own index y ∈ gw) (hst : st0 = As.reverse ++ S) (hn : As.length = n) (hc : CT K y bytes maxL retc rm (As) X Y o1) (hR : RM R rm maxL kc ns) (hS8 : (S.map (fun v => v.category)).sum ≤ 8) (hq : pc + 3 = q) (h : ∀ X1 Y1, JO K own cc nL ret R kc ns PZ q L (.ref ra :: S) X1 Y1 (k X1 Y1)) : JO K own cc nL ret R kc ns PZ pc L st0 X Y (br ra o1 k) := by
  intro out ho p l e s m args below meth c H locs ls C hP hS hlo
  subst hq
  have hl0 : ls.size = nL := hlo.1
  obtain ⟨X1, Y1, e1, e2⟩ := br_some ho
  have hM := hc _ e1 l
  obtain ⟨⟨r1, r2⟩, r3, r4⟩ := hR
  have hst2 : st0.map (trV K) = (As.map (trV K)).reverse ++ S.map (trV K) := by rw [hst, List.map_append, List.map_reverse]
  exact w_call (va_runS (As := As.map (trV K)) (rest := S.map (trV K)) ⟨C.ex, C.co, C.ml, C.ow, C.ts⟩ hM (va_cwS n C.ts (gw_good (fun w hw5 => by
    rcases List.mem_append.mp hw5 with h5 | h5
    · simp only [List.mem_cons, List.not_mem_nil, or_false] at h5
      rcases h5 with rfl | rfl | rfl
      · exact hl
      · exact hv
      · exact hw.2.1
    · exact (List.mem_cons.mp h5).elim (fun e5 => by rw [e5]; exact hw.1) (fun h5 => h5))) rfl r1 r2 hw.2.2 r3) ⟨Pk_blind K _ X Y, pre_at C hP hS (As.map (trV K))⟩ rfl (by rw [List.length_map]; exact hn) hl0 hst2 (room8 hS8) hd ⟨r4.1, r4.2⟩) hS (fun H1 locs1 hP1 hS1 => h X1 Y1 out e2 p l e s m args below meth c H1 locs1 ls C hP1 hS1 hlo)
theorem j_callSNi {index : Nat} {y : MethodName} {bytes : ByteArray} {maxL n : Nat} {retc : Option FieldType} {rm : Room} {k : Int32 → HI → HL → Option Out} (As : List Value) (hd : decode cc pc = .ok (.invokestatic index, 3)) (hw : MW y bytes maxL retc n) (hv : MS y) {host : String} (hl : Cond.methodLinkNest own index y host ∈ nw) (hst : st0 = As.reverse ++ S) (hn : As.length = n) (hc : CT K y bytes maxL retc rm (As) X Y o1) (hR : RM R rm maxL kc ns) (hS8 : (S.map (fun v => v.category)).sum ≤ 8) (hq : pc + 3 = q) (h : ∀ r X1 Y1, JO K own cc nL ret R kc ns PZ q L (.int r :: S) X1 Y1 (k r X1 Y1)) : JO K own cc nL ret R kc ns PZ pc L st0 X Y (bi o1 k) := by
  intro out ho p l e s m args below meth c H locs ls C hP hS hlo
  subst hq
  have hl0 : ls.size = nL := hlo.1
  obtain ⟨r, X1, Y1, e1, e2⟩ := bi_some ho
  have hM := hc _ e1 l
  obtain ⟨⟨r1, r2⟩, r3, r4⟩ := hR
  have hst2 : st0.map (trV K) = (As.map (trV K)).reverse ++ S.map (trV K) := by rw [hst, List.map_append, List.map_reverse]
  exact w_call (va_runSN (As := As.map (trV K)) (rest := S.map (trV K)) ⟨C.ex, C.co, C.ml, C.ow, C.ts⟩ hM ⟨va_cnB n C.ts (gw_good (fun w hw5 => (List.mem_cons.mp hw5).elim (fun e5 => by rw [e5]; exact hw.1) (fun h5 => h5))) rfl r1 r2 (C.ne _ hl) (C.ts _ hw.2.1) hw.2.2 r3, C.ts _ hv, trivial⟩ ⟨Pk_blind K _ X Y, pre_at C hP hS (As.map (trV K))⟩ rfl (by rw [List.length_map]; exact hn) hl0 hst2 (room8 hS8) hd ⟨r4.1, r4.2⟩) hS (fun H1 locs1 hP1 hS1 => h r X1 Y1 out e2 p l e s m args below meth c H1 locs1 ls C hP1 hS1 hlo)
theorem j_callSNl {index : Nat} {y : MethodName} {bytes : ByteArray} {maxL n : Nat} {retc : Option FieldType} {rm : Room} {k : Int64 → HI → HL → Option Out} (As : List Value) (hd : decode cc pc = .ok (.invokestatic index, 3)) (hw : MW y bytes maxL retc n) (hv : MS y) {host : String} (hl : Cond.methodLinkNest own index y host ∈ nw) (hst : st0 = As.reverse ++ S) (hn : As.length = n) (hc : CT K y bytes maxL retc rm (As) X Y o1) (hR : RM R rm maxL kc ns) (hS8 : (S.map (fun v => v.category)).sum ≤ 8) (hq : pc + 3 = q) (h : ∀ r X1 Y1, JO K own cc nL ret R kc ns PZ q L (.long r :: S) X1 Y1 (k r X1 Y1)) : JO K own cc nL ret R kc ns PZ pc L st0 X Y (bl o1 k) := by
  intro out ho p l e s m args below meth c H locs ls C hP hS hlo
  subst hq
  have hl0 : ls.size = nL := hlo.1
  obtain ⟨r, X1, Y1, e1, e2⟩ := bl_some ho
  have hM := hc _ e1 l
  obtain ⟨⟨r1, r2⟩, r3, r4⟩ := hR
  have hst2 : st0.map (trV K) = (As.map (trV K)).reverse ++ S.map (trV K) := by rw [hst, List.map_append, List.map_reverse]
  exact w_call (va_runSN (As := As.map (trV K)) (rest := S.map (trV K)) ⟨C.ex, C.co, C.ml, C.ow, C.ts⟩ hM ⟨va_cnB n C.ts (gw_good (fun w hw5 => (List.mem_cons.mp hw5).elim (fun e5 => by rw [e5]; exact hw.1) (fun h5 => h5))) rfl r1 r2 (C.ne _ hl) (C.ts _ hw.2.1) hw.2.2 r3, C.ts _ hv, trivial⟩ ⟨Pk_blind K _ X Y, pre_at C hP hS (As.map (trV K))⟩ rfl (by rw [List.length_map]; exact hn) hl0 hst2 (room8 hS8) hd ⟨r4.1, r4.2⟩) hS (fun H1 locs1 hP1 hS1 => h r X1 Y1 out e2 p l e s m args below meth c H1 locs1 ls C hP1 hS1 hlo)
theorem j_callSNv {index : Nat} {y : MethodName} {bytes : ByteArray} {maxL n : Nat} {retc : Option FieldType} {rm : Room} {k : HI → HL → Option Out} (As : List Value) (hd : decode cc pc = .ok (.invokestatic index, 3)) (hw : MW y bytes maxL retc n) (hv : MS y) {host : String} (hl : Cond.methodLinkNest own index y host ∈ nw) (hst : st0 = As.reverse ++ S) (hn : As.length = n) (hc : CT K y bytes maxL retc rm (As) X Y o1) (hR : RM R rm maxL kc ns) (hS8 : (S.map (fun v => v.category)).sum ≤ 8) (hq : pc + 3 = q) (h : ∀ X1 Y1, JO K own cc nL ret R kc ns PZ q L S X1 Y1 (k X1 Y1)) : JO K own cc nL ret R kc ns PZ pc L st0 X Y (bv o1 k) := by
  intro out ho p l e s m args below meth c H locs ls C hP hS hlo
  subst hq
  have hl0 : ls.size = nL := hlo.1
  obtain ⟨X1, Y1, e1, e2⟩ := bv_some ho
  have hM := hc _ e1 l
  obtain ⟨⟨r1, r2⟩, r3, r4⟩ := hR
  have hst2 : st0.map (trV K) = (As.map (trV K)).reverse ++ S.map (trV K) := by rw [hst, List.map_append, List.map_reverse]
  exact w_call (va_runSN (As := As.map (trV K)) (rest := S.map (trV K)) ⟨C.ex, C.co, C.ml, C.ow, C.ts⟩ hM ⟨va_cnB n C.ts (gw_good (fun w hw5 => (List.mem_cons.mp hw5).elim (fun e5 => by rw [e5]; exact hw.1) (fun h5 => h5))) rfl r1 r2 (C.ne _ hl) (C.ts _ hw.2.1) hw.2.2 r3, C.ts _ hv, trivial⟩ ⟨Pk_blind K _ X Y, pre_at C hP hS (As.map (trV K))⟩ rfl (by rw [List.length_map]; exact hn) hl0 hst2 (room8 hS8) hd ⟨r4.1, r4.2⟩) hS (fun H1 locs1 hP1 hS1 => h X1 Y1 out e2 p l e s m args below meth c H1 locs1 ls C hP1 hS1 hlo)
theorem j_callSNr {index : Nat} {y : MethodName} {bytes : ByteArray} {maxL n : Nat} {retc : Option FieldType} {rm : Room} {ra : Nat} {k : HI → HL → Option Out} (As : List Value) (hd : decode cc pc = .ok (.invokestatic index, 3)) (hw : MW y bytes maxL retc n) (hv : MS y) {host : String} (hl : Cond.methodLinkNest own index y host ∈ nw) (hst : st0 = As.reverse ++ S) (hn : As.length = n) (hc : CT K y bytes maxL retc rm (As) X Y o1) (hR : RM R rm maxL kc ns) (hS8 : (S.map (fun v => v.category)).sum ≤ 8) (hq : pc + 3 = q) (h : ∀ X1 Y1, JO K own cc nL ret R kc ns PZ q L (.ref ra :: S) X1 Y1 (k X1 Y1)) : JO K own cc nL ret R kc ns PZ pc L st0 X Y (br ra o1 k) := by
  intro out ho p l e s m args below meth c H locs ls C hP hS hlo
  subst hq
  have hl0 : ls.size = nL := hlo.1
  obtain ⟨X1, Y1, e1, e2⟩ := br_some ho
  have hM := hc _ e1 l
  obtain ⟨⟨r1, r2⟩, r3, r4⟩ := hR
  have hst2 : st0.map (trV K) = (As.map (trV K)).reverse ++ S.map (trV K) := by rw [hst, List.map_append, List.map_reverse]
  exact w_call (va_runSN (As := As.map (trV K)) (rest := S.map (trV K)) ⟨C.ex, C.co, C.ml, C.ow, C.ts⟩ hM ⟨va_cnB n C.ts (gw_good (fun w hw5 => (List.mem_cons.mp hw5).elim (fun e5 => by rw [e5]; exact hw.1) (fun h5 => h5))) rfl r1 r2 (C.ne _ hl) (C.ts _ hw.2.1) hw.2.2 r3, C.ts _ hv, trivial⟩ ⟨Pk_blind K _ X Y, pre_at C hP hS (As.map (trV K))⟩ rfl (by rw [List.length_map]; exact hn) hl0 hst2 (room8 hS8) hd ⟨r4.1, r4.2⟩) hS (fun H1 locs1 hP1 hS1 => h X1 Y1 out e2 p l e s m args below meth c H1 locs1 ls C hP1 hS1 hlo)
theorem j_mmin {index : Nat} {x y : Int32} (hd : decode cc pc = .ok (.invokestatic index, 3)) (hl : Cond.methodLink own index Lib.Math.min.name ∈ gw) (hR : 1 ≤ R.frames ∧ (S.map (fun v => v.category)).sum + 13 ≤ R.locals ∧ kc ≤ R.cells ∧ ns ≤ R.slots) (hq : pc + 3 = q) (h : JO K own cc nL ret R kc ns PZ q L (.int (if y < x then y else x) :: S) X Y o) : JO K own cc nL ret R kc ns PZ pc L (.int y :: .int x :: S) X Y o := by
  intro out ho p l e s m args below meth c H locs ls C hP hS hlo
  subst hq
  have e8 : ((S.map (trV K)).map (fun v => v.category)) = S.map (fun v => v.category) := by
    rw [List.map_map]
    exact List.map_congr_left (fun v _ => trV_cat K v)
  exact va_mmin C.ex C.co (by rw [C.ml]; exact hlo.1.symm) C.ow (C.ts _ hl) (C.ts _ mm_min.1) (C.ts _ mm_min.2.1) (C.ts _ mm_min.2.2) hR.1 (by rw [e8]; exact hR.2.1) hR.2.2.1 hR.2.2.2 hd (h out ho p l e s m args below meth c H locs ls C hP hS hlo)
theorem j_mmax {index : Nat} {x y : Int32} (hd : decode cc pc = .ok (.invokestatic index, 3)) (hl : Cond.methodLink own index Lib.Math.max.name ∈ gw) (hR : 1 ≤ R.frames ∧ (S.map (fun v => v.category)).sum + 13 ≤ R.locals ∧ kc ≤ R.cells ∧ ns ≤ R.slots) (hq : pc + 3 = q) (h : JO K own cc nL ret R kc ns PZ q L (.int (if x < y then y else x) :: S) X Y o) : JO K own cc nL ret R kc ns PZ pc L (.int y :: .int x :: S) X Y o := by
  intro out ho p l e s m args below meth c H locs ls C hP hS hlo
  subst hq
  have e8 : ((S.map (trV K)).map (fun v => v.category)) = S.map (fun v => v.category) := by
    rw [List.map_map]
    exact List.map_congr_left (fun v _ => trV_cat K v)
  exact va_mmax C.ex C.co (by rw [C.ml]; exact hlo.1.symm) C.ow (C.ts _ hl) (C.ts _ mm_max.1) (C.ts _ mm_max.2.1) (C.ts _ mm_max.2.2) hR.1 (by rw [e8]; exact hR.2.1) hR.2.2.1 hR.2.2.2 hd (h out ho p l e s m args below meth c H locs ls C hP hS hlo)
theorem j_mabs {index : Nat} {x : Int32} (hd : decode cc pc = .ok (.invokestatic index, 3)) (hl : Cond.methodLink own index Lib.Math.abs.name ∈ gw) (hR : 1 ≤ R.frames ∧ (S.map (fun v => v.category)).sum + 13 ≤ R.locals ∧ kc ≤ R.cells ∧ ns ≤ R.slots) (hq : pc + 3 = q) (h : JO K own cc nL ret R kc ns PZ q L (.int (if 0 ≤ x then x else 0 - x) :: S) X Y o) : JO K own cc nL ret R kc ns PZ pc L (.int x :: S) X Y o := by
  intro out ho p l e s m args below meth c H locs ls C hP hS hlo
  subst hq
  have e8 : ((S.map (trV K)).map (fun v => v.category)) = S.map (fun v => v.category) := by
    rw [List.map_map]
    exact List.map_congr_left (fun v _ => trV_cat K v)
  exact va_mabs C.ex C.co (by rw [C.ml]; exact hlo.1.symm) C.ow (C.ts _ hl) (C.ts _ mm_abs.1) (C.ts _ mm_abs.2.1) (C.ts _ mm_abs.2.2) hR.1 (by rw [e8]; exact hR.2.1) hR.2.2.1 hR.2.2.2 hd (h out ho p l e s m args below meth c H locs ls C hP hS hlo)
end JC
