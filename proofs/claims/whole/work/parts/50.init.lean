/-! making: a judgement for constructors, over lists of cells -/
abbrev TYs : Type := ClassId × (ClassId × ClassId)
def tyL (z : TYs) : List (ClassId × FieldType) := [(z.1, .int), (z.2.1, .boolean), (z.2.2, .object "BrinePans$Pans")]
def Cn (D : va_G) (z : TYs) (own : String) (cc : ByteArray) (nL : Nat) (p : Program) (s : State) (m : MethodId) (args : Array Value) (meth : Method) (c : Code) : Prop :=
  p.tables.exec = Jvm.exec ∧ c.code = cc ∧ meth.sig.returnType = none ∧ c.maxLocals = nL ∧ s.vm.findClass own = some m.cls ∧ (∀ w ∈ gw, w.before args s = true) ∧ meth.locks = false ∧ va_K D classes (tyL z) s ∧ kN s ∧ va_AO "BrinePans$Pans" s ∧ meth.name = "<init>"
section CNS
variable {D : va_G} {z : TYs} {own : String} {cc : ByteArray} {nL : Nat} {p : Program} {s : State} {m : MethodId} {args : Array Value} {meth : Method} {c : Code}
theorem Cn.ex (h : Cn D z own cc nL p s m args meth c) : p.tables.exec = Jvm.exec := h.1
theorem Cn.co (h : Cn D z own cc nL p s m args meth c) : c.code = cc := h.2.1
theorem Cn.re (h : Cn D z own cc nL p s m args meth c) : meth.sig.returnType = none := h.2.2.1
theorem Cn.ml (h : Cn D z own cc nL p s m args meth c) : c.maxLocals = nL := h.2.2.2.1
theorem Cn.ow (h : Cn D z own cc nL p s m args meth c) : s.vm.findClass own = some m.cls := h.2.2.2.2.1
theorem Cn.ts (h : Cn D z own cc nL p s m args meth c) : ∀ w ∈ gw, w.before args s = true := h.2.2.2.2.2.1
theorem Cn.lk (h : Cn D z own cc nL p s m args meth c) : meth.locks = false := h.2.2.2.2.2.2.1
theorem Cn.ka (h : Cn D z own cc nL p s m args meth c) : va_K D classes (tyL z) s := h.2.2.2.2.2.2.2.1
theorem Cn.ne (h : Cn D z own cc nL p s m args meth c) : kN s := h.2.2.2.2.2.2.2.2.1
theorem Cn.ao (h : Cn D z own cc nL p s m args meth c) : va_AO "BrinePans$Pans" s := h.2.2.2.2.2.2.2.2.2.1
theorem Cn.nm (h : Cn D z own cc nL p s m args meth c) : meth.name = "<init>" := h.2.2.2.2.2.2.2.2.2.2
end CNS
def An (q0 sz : Nat) : Nat → Prop := fun q => q = q0 ∨ sz ≤ q
def QN (D : va_G) (q0 sz : Nat) (Post : va_W → Prop) : Array Value → State → Outcome → State → Prop := fun _ st o t => (o = .returned none ∧ ∃ ws, Post ws ∧ va_P D classes ws t.heap ∧ va_D (An q0 sz) ws) ∧ va_F (An q0 sz) st t
def PN (D : va_G) (z : TYs) (q0 sz : Nat) (e0 : va_E) : State → Prop := fun U => U.heap.size = sz ∧ va_P D classes [(q0, e0)] U.heap ∧ va_K D classes (tyL z) U ∧ kN U ∧ va_AO "BrinePans$Pans" U
def JN (D : va_G) (z : TYs) (own : String) (cc : ByteArray) (nL : Nat) (R : Room) (q0 sz mc ms : Nat) (Post : va_W → Prop) (cells slots pc : Nat) (Lv : List (Nat × Value)) (S : List Value) (ws : va_W) : Prop :=
  ∀ (p : Program) (l : Launch) (e : Env) (s : State) (m : MethodId) (args : Array Value) (below : List Frame) (meth : Method) (c : Code) (H : Heap) (locs : List Loc) (ls : Array Slot),
    Cn D z own cc nL p s m args meth c → s.heap.size = sz → va_P D classes ws H → va_D (An q0 sz) ws → va_S (An q0 sz) s.heap H locs → lv_has ls nL Lv →
    W p l e R s m args below meth c H locs cells slots (MQ below (QN D q0 sz Post) args s mc ms (An q0 sz)) (F0 m pc ls S)
def CI (D : va_G) (z : TYs) (y : MethodName) (bytes : ByteArray) (maxL : Nat) (rm : Room) (mc ms : Nat) (av : List Value) (q0 : Nat) (e0 : va_E) (Post : va_W → Prop) : Prop :=
  ∀ (l : Launch) (sz : Nat), Met l y (.code y bytes maxL none :: gw) rm (va_Pc av (PN D z q0 sz e0)) (QN D q0 sz Post) mc ms (An q0 sz)
theorem ci_of {D : va_G} {z : TYs} {y : MethodName} {bytes : ByteArray} {maxL : Nat} {rm : Room} {mc ms : Nat} {av : List Value} {q0 : Nat} {e0 : va_E} {Post : va_W → Prop} {Lv : List (Nat × Value)} (hy : plainName y.cls = true) (hy1 : y.name = "<init>") (hL : lv_args 0 av = Lv) (hn : (lg_sl av).length ≤ maxL)
    (h : ∀ sz, JN D z y.cls bytes maxL rm q0 sz mc ms Post 0 0 0 Lv [] [(q0, e0)]) : CI D z y bytes maxL rm mc ms av q0 e0 Post := by
  intro l sz
  refine Met.ofW (cc := bytes) (maxL := maxL) (ret := none) hy rfl ?_
  intro p e s m args below meth c s₁ B hml hv
  obtain ⟨rfl, hsz, hP, hKa, hN, hAO⟩ := hv
  have hts := atoms_spec (ws := .code y bytes maxL none :: gw) B.pre
  have hown : s.vm.findClass y.cls = some m.cls := findClass_of_methodNamed B.named
  have hnm : meth.name = y.name := (name_of_methodNamed B.named B.method).1
  have hl := lv_entry av (n := maxL) hn
  rw [lg_entry_eq]
  rw [hL] at hl
  exact h sz p l e s m _ below meth c s.heap [] _ ⟨B.exec, B.bytes, B.returns, hml, hown, fun w hw => hts w (List.mem_cons_of_mem _ hw), B.notSynchronized, hKa, hN, hAO, hnm.trans hy1⟩ hsz hP ⟨fun i j p q hi hj _ => by
      have h1 := (List.getElem?_eq_some_iff.mp hi).1
      have h2 := (List.getElem?_eq_some_iff.mp hj).1
      simp at h1 h2
      omega, fun k q hk => by
      have h1 := (List.getElem?_eq_some_iff.mp hk).1
      simp at h1
      subst h1
      cases hk
      exact Or.inl rfl⟩ va_S.rf hl
/-- behind a constructor's call: the new cell, which stood last, has become what the constructor made -/
theorem w_init {p : Program} {l : Launch} {e : Env} {R : Room} {s : State} {m : MethodId} {args : Array Value} {below : List Frame} {meth : Method} {c : Code} {H H0 : Heap} {locs : List Loc} {cells slots mc ms pc : Nat} {Q : State → Prop} {ls : Array Slot} {sT rest : List Value} {a : Array Value} {D : va_G} {qn : Nat} {e0 : va_E} {Post : va_W → Prop} {A : Nat → Prop} {ws0 : va_W}
    (hr : va_Run p l e R s m args below meth c H locs cells slots mc ms (F0 m pc ls sT) rest (QN D qn H.size Post a) (An qn H.size)) (hP : va_P D classes (ws0 ++ [(qn, e0)]) H) (hD : va_D A (ws0 ++ [(qn, e0)])) (hS : va_S A H0 H locs) (hA : ∀ q, H0.size ≤ q → A q)
    (kk : ∀ (ws : va_W) (H1 : Heap) (locs1 : List Loc), Post ws → va_P D classes (ws0 ++ ws) H1 → va_D A (ws0 ++ ws) → va_S A H0 H1 locs1 → W p l e R s m args below meth c H1 locs1 (cells + mc) (slots + ms) Q (F0 m (pc + 3) ls rest)) : W p l e R s m args below meth c H locs cells slots Q (F0 m pc ls sT) := by
  have hlast : (ws0 ++ [(qn, e0)])[ws0.length]? = some (qn, e0) := by simp
  have hAq : ∀ q, An qn H.size q → A q := fun q hq => by
    rcases hq with rfl | hq
    · exact hD.2 _ _ hlast
    · exact hA q (Nat.le_trans hS.1 hq)
  have h0 : ∀ (k : Nat) (x : Nat × va_E), ws0[k]? = some x → (ws0 ++ [(qn, e0)])[k]? = some x ∧ k < ws0.length := fun k x hx => by
    have hk := (List.getElem?_eq_some_iff.mp hx).1
    exact ⟨by rw [List.getElem?_append_left hk]; exact hx, hk⟩
  have hne : ∀ (k : Nat) (x : Nat × va_E), ws0[k]? = some x → x.1 < H.size ∧ ¬ An qn H.size x.1 := fun k x hx => by
    obtain ⟨g1, g2⟩ := h0 k x hx
    have hlt := (hP k x g1).lt
    refine ⟨hlt, fun hq => ?_⟩
    rcases hq with hq | hq
    · have := hD.1 k ws0.length x (qn, e0) g1 hlast hq
      omega
    · omega
  intro T hT X
  obtain ⟨v, st₀, t, T', L, e1, X', hL, e2, e3, ⟨⟨hv, ws, hpo, hp, hd⟩, hz, hk⟩, st⟩ := hr T hT X
  cases hv
  rw [e1] at hz hk
  have hP0 : va_P D classes ws0 H := fun k x hx => hP k x (h0 k x hx).1
  have hD0 : va_D A ws0 := ⟨fun i j p q hi hj hpq => hD.1 i j p q (h0 i p hi).1 (h0 j q hj).1 hpq, fun k q hk => hD.2 k q (h0 k q hk).1⟩
  obtain ⟨t2, a1, b1⟩ := kk ws T'.heap (locs ++ L) hpo (by rw [e2]; exact (hP0.kept (fun k x hx => hk x.1 (hne k x hx).1 (hne k x hx).2)).app hp)
    (va_D.app hD0 ⟨hd.1, fun k q hq => hAq _ (hd.2 k q hq)⟩ (fun i j p q hi hj hpq => (hne i p hi).2 (by rw [hpq]; exact hd.2 j q hj)))
    ⟨Nat.le_trans hS.1 (by rw [e2]; exact hz), fun q h1 h2 => by rw [e2, hk q (Nat.lt_of_lt_of_le h1 hS.1) (fun hq => h2 (hAq q hq))]; exact hS.2.1 q h1 h2, fun q hq => by
      rcases List.mem_append.mp hq with h | h
      · exact hS.2.2 q h
      · exact hAq _ (hL q h)⟩ T' rfl X'
  exact ⟨t2, st t2 a1, b1⟩
theorem PN_blind (D : va_G) (z : TYs) (av : List Value) (q0 sz : Nat) (e0 : va_E) : FrameBlind (va_Pc av (PN D z q0 sz e0)) := fun a U g mk q => by
  obtain ⟨q1, q2, qP, qK, qN, qA⟩ := q
  exact ⟨q1, q2, qP, va_K.moved (u := U) (U := U.calling g mk a) (Vm.Alike.refl U.vm) qK, kN.same (u := U) (U := U.calling g mk a) rfl qN, va_AO.moved (u := U) (U := U.calling g mk a) (Vm.Alike.refl U.vm) qA⟩
def MI (y : MethodName) (bytes : ByteArray) (maxL n : Nat) : Prop := Cond.code y bytes maxL none ∈ gw ∧ Cond.initialized y.cls ∈ gw ∧ Cond.instanceMethod y ∈ gw ∧ y.name = "<init>" ∧ (y.cls ≠ "java/lang/invoke/MethodHandle" ∧ y.cls ≠ "java/lang/invoke/VarHandle" ∧ (parseMethodDescriptor y.desc).map (fun d => d.parameters.length) = some n)
/-- a field that is final, of the class's own -/
def FF (own : String) (index ci k : Nat) (ty : FieldType) : Prop := FK own index ci k ∧ (∃ C T N, classes[ci]? = some (C, T, N) ∧ Cond.fieldLink own index C (T k).2.1 (T k).2.2.1 ∈ gw ∧ (T k).2.2.2 = true ∧ (T k).1 = own ∧ parseFieldDescriptor (T k).2.2.1 = some ty)
def NC (C : String) (T : u_T) (N ci : Nat) (ty : Nat → FieldType) : Prop := classes[ci]? = some (C, T, N) ∧ (∀ w ∈ u_ws C T N, w ∈ gw) ∧ (∀ k, k < N → parseFieldDescriptor (T k).2.2.1 = some (ty k)) ∧ Cond.instantiable C N ∈ gw ∧ Cond.initialized C ∈ gw
theorem ob_w : Cond.instanceMethod Lib.objectInit ∈ gw ∧ Cond.code Lib.objectInit ⟨#[0xb1]⟩ 1 none ∈ gw := ⟨gw_t 16 (by decide +kernel) (by decide +kernel), gw_t 17 (by decide +kernel) (by decide +kernel)⟩
theorem ac_I : Cond.arrayClass .int ∈ gw := gw_t 32 (by decide +kernel) (by decide +kernel)
theorem ac_Z : Cond.arrayClass .boolean ∈ gw := gw_t 130 (by decide +kernel) (by decide +kernel)
section NR
variable {D : va_G} {z : TYs} {own : String} {cc : ByteArray} {nL : Nat} {R : Room} {q0 sz mc ms : Nat} {Post : va_W → Prop} {cells slots pc q : Nat} {Lv Lv' : List (Nat × Value)} {S : List Value} {ws : va_W}
theorem n_aload {k : Fin 4} {i x : Nat} (hd : decode cc pc = .ok (.aload_n k, 1)) (hi : (k : Nat) = i) (hl0 : (i, Value.ref x) ∈ Lv) (h : JN D z own cc nL R q0 sz mc ms Post cells slots (pc + 1) Lv (.ref x :: S) ws) : JN D z own cc nL R q0 sz mc ms Post cells slots pc Lv S ws :=
  fun p l e s m args below meth c H locs ls C hz hP hD hS hl => lv_aload_n C.ex C.co hd hi (hl.2.2 _ hl0) (h p l e s m args below meth c H locs ls C hz hP hD hS hl)
theorem n_iload {k : Fin 4} {i : Nat} {x : Int32} (hd : decode cc pc = .ok (.iload_n k, 1)) (hi : (k : Nat) = i) (hl0 : (i, Value.int x) ∈ Lv) (h : JN D z own cc nL R q0 sz mc ms Post cells slots (pc + 1) Lv (.int x :: S) ws) : JN D z own cc nL R q0 sz mc ms Post cells slots pc Lv S ws :=
  fun p l e s m args below meth c H locs ls C hz hP hD hS hl => lv_iload_n C.ex C.co hd hi (hl.2.2 _ hl0) (h p l e s m args below meth c H locs ls C hz hP hD hS hl)
theorem n_istore {k : Fin 4} {i : Nat} {x : Int32} (hd : decode cc pc = .ok (.istore_n k, 1)) (hi : (k : Nat) = i) (hn : i < nL) (hL : (i, Value.int x) :: Lv.filter (fun q => !(q.1 == i) && !(q.1 + 1 == i && q.2.category == 2)) = Lv') (h : JN D z own cc nL R q0 sz mc ms Post cells slots (pc + 1) Lv' S ws) : JN D z own cc nL R q0 sz mc ms Post cells slots pc Lv (.int x :: S) ws :=
  fun p l e s m args below meth c H locs ls C hz hP hD hS hl => lv_istore_n C.ex C.co hd hi hl hn hL (fun ls' hl' => h p l e s m args below meth c H locs ls' C hz hP hD hS hl')
theorem n_iinc {i k : Nat} {n : Int} {x v : Int32} (hd : decode cc pc = .ok (.iinc i n, 3)) (hk : Lv[k]? = some (i, .int x)) (hv : x + Int32.ofInt n = v) (hn : i < nL) (hL : (i, Value.int v) :: Lv.filter (fun q => !(q.1 == i) && !(q.1 + 1 == i && q.2.category == 2)) = Lv') (h : JN D z own cc nL R q0 sz mc ms Post cells slots (pc + 3) Lv' S ws) : JN D z own cc nL R q0 sz mc ms Post cells slots pc Lv S ws :=
  fun p l e s m args below meth c H locs ls C hz hP hD hS hl => lv_iinc C.ex C.co hd hl hk hv hn hL (fun ls' hl' => h p l e s m args below meth c H locs ls' C hz hP hD hS hl')
theorem n_lvs (hsub : ∀ q ∈ Lv', q ∈ Lv) (h : JN D z own cc nL R q0 sz mc ms Post cells slots pc Lv' S ws) : JN D z own cc nL R q0 sz mc ms Post cells slots pc Lv S ws :=
  fun p l e s m args below meth c H locs ls C hz hP hD hS hl => h p l e s m args below meth c H locs ls C hz hP hD hS (lv_mono hl hsub)
theorem n_iconst {n : Int} {v : Int32} (hd : decode cc pc = .ok (.iconst n, 1)) (hv : Int32.ofInt n = v) (h : JN D z own cc nL R q0 sz mc ms Post cells slots (pc + 1) Lv (.int v :: S) ws) : JN D z own cc nL R q0 sz mc ms Post cells slots pc Lv S ws :=
  fun p l e s m args below meth c H locs ls C hz hP hD hS hl => lv_iconst C.ex C.co hd hv (h p l e s m args below meth c H locs ls C hz hP hD hS hl)
theorem n_bipush {n : Int} {v : Int32} (hd : decode cc pc = .ok (.bipush n, 2)) (hv : (Int8.ofInt n).toInt32 = v) (h : JN D z own cc nL R q0 sz mc ms Post cells slots (pc + 2) Lv (.int v :: S) ws) : JN D z own cc nL R q0 sz mc ms Post cells slots pc Lv S ws :=
  fun p l e s m args below meth c H locs ls C hz hP hD hS hl => lv_bipush C.ex C.co hd hv (h p l e s m args below meth c H locs ls C hz hP hD hS hl)
theorem n_sipush {n : Int} {v : Int32} (hd : decode cc pc = .ok (.sipush n, 3)) (hv : (Int16.ofInt n).toInt32 = v) (h : JN D z own cc nL R q0 sz mc ms Post cells slots (pc + 3) Lv (.int v :: S) ws) : JN D z own cc nL R q0 sz mc ms Post cells slots pc Lv S ws :=
  fun p l e s m args below meth c H locs ls C hz hP hD hS hl => lv_sipush C.ex C.co hd hv (h p l e s m args below meth c H locs ls C hz hP hD hS hl)
theorem n_lconst {n : Fin 2} {v : Int64} (hd : decode cc pc = .ok (.lconst n, 1)) (hv : Int64.ofNat (n : Nat) = v) (h : JN D z own cc nL R q0 sz mc ms Post cells slots (pc + 1) Lv (.long v :: S) ws) : JN D z own cc nL R q0 sz mc ms Post cells slots pc Lv S ws :=
  fun p l e s m args below meth c H locs ls C hz hP hD hS hl => lv_lconst C.ex C.co hd hv (h p l e s m args below meth c H locs ls C hz hP hD hS hl)
theorem n_dup {v : Value} (hd : decode cc pc = .ok (.dup, 1)) (hv : v.category = 1) (h : JN D z own cc nL R q0 sz mc ms Post cells slots (pc + 1) Lv (v :: v :: S) ws) : JN D z own cc nL R q0 sz mc ms Post cells slots pc Lv (v :: S) ws :=
  fun p l e s m args below meth c H locs ls C hz hP hD hS hl => lv_dup C.ex C.co hd hv (h p l e s m args below meth c H locs ls C hz hP hD hS hl)
theorem n_goto {off : Int} {tgt : Nat} (hd : decode cc pc = .ok (.goto off, 3)) (ht : (pc : Int) + off = (tgt : Int)) (h : JN D z own cc nL R q0 sz mc ms Post cells slots tgt Lv S ws) : JN D z own cc nL R q0 sz mc ms Post cells slots pc Lv S ws :=
  fun p l e s m args below meth c H locs ls C hz hP hD hS hl => lv_goto C.ex C.co hd ht (h p l e s m args below meth c H locs ls C hz hP hD hS hl)
theorem n_icmp_ge {x y : Int32} {off : Int} {tgt : Nat} (hd : decode cc pc = .ok (.if_icmp .ge off, 3)) (ht : (pc : Int) + off = (tgt : Int)) (h1 : y ≤ x → JN D z own cc nL R q0 sz mc ms Post cells slots tgt Lv S ws) (h2 : ¬ y ≤ x → JN D z own cc nL R q0 sz mc ms Post cells slots (pc + 3) Lv S ws) : JN D z own cc nL R q0 sz mc ms Post cells slots pc Lv (.int y :: .int x :: S) ws :=
  fun p l e s m args below meth c H locs ls C hz hP hD hS hl => lv_icmp_ge C.ex C.co hd ht (fun q => h1 q p l e s m args below meth c H locs ls C hz hP hD hS hl) (fun q => h2 q p l e s m args below meth c H locs ls C hz hP hD hS hl)
theorem n_obj {idx a : Nat} (hd : decode cc pc = .ok (.invokespecial idx, 3)) (hw : Cond.methodLink own idx Lib.objectInit ∈ gw) (hR : 1 ≤ R.frames ∧ (S.map (fun v => v.category)).sum + 12 ≤ R.locals) (h : JN D z own cc nL R q0 sz mc ms Post cells slots (pc + 3) Lv S ws) : JN D z own cc nL R q0 sz mc ms Post cells slots pc Lv (.ref a :: S) ws :=
  fun p l e s m args below meth c H locs ls C hz hP hD hS hl => W.objInit C.ex C.co C.ow (C.ts _ hw) (C.ts _ ob_w.1) (C.ts _ ob_w.2) rfl (by rw [C.ml]; exact hl.1) rfl hd hR.1 (by show 2 * 0 + _ + 12 ≤ _; omega) (h p l e s m args below meth c H locs ls C hz hP hD hS hl)
theorem n_newI {n : Int32} {N : Nat} (hd : decode cc pc = .ok (.newarray .int, 2)) (hn : ¬ n < 0) (hN : n.toNatClampNeg = N) (hb : N * 4 ≤ 536870912) (hc : cells + 1 ≤ R.cells) (hs : slots + N ≤ R.slots) (h : ∀ a, JN D z own cc nL R q0 sz mc ms Post (cells + 1) (slots + N) (pc + 2) Lv (.ref a :: S) (ws ++ [(a, .inl (z.1, N, .inl (fun _ => 0)))])) : JN D z own cc nL R q0 sz mc ms Post cells slots pc Lv (.int n :: S) ws := by
  intro p l e s m args below meth c H locs ls C hz hP hD hS hl
  refine va_newa (atype := .int) (a0 := (N, .inl (fun _ => 0))) C.ex C.co (C.ts _ ac_I) rfl C.ka hP hD hS (fun q hq => Or.inr (by omega)) (fun _ => rfl) hn hN hb hc hs hd (fun q cA H1 hK1 hP1 hD1 hS1 => ?_)
  have e1 : s.vm.findClass ("[" ++ FieldType.int.toString) = some z.1 := (C.ka.2 0 _ rfl).2
  have e2 : s.vm.findClass ("[" ++ FieldType.int.toString) = some cA := (hK1.2 3 _ rfl).2
  have e3 : cA = z.1 := Option.some.inj (e2.symm.trans e1)
  subst e3
  exact h q p l e s m args below meth c H1 locs ls C hz hP1 hD1 hS1 hl
theorem n_newZ {n : Int32} {N : Nat} (hd : decode cc pc = .ok (.newarray .boolean, 2)) (hn : ¬ n < 0) (hN : n.toNatClampNeg = N) (hb : N * 1 ≤ 536870912) (hc : cells + 1 ≤ R.cells) (hs : slots + N ≤ R.slots) (h : ∀ a, JN D z own cc nL R q0 sz mc ms Post (cells + 1) (slots + N) (pc + 2) Lv (.ref a :: S) (ws ++ [(a, .inl (z.2.1, N, .inl (fun _ => 0)))])) : JN D z own cc nL R q0 sz mc ms Post cells slots pc Lv (.int n :: S) ws := by
  intro p l e s m args below meth c H locs ls C hz hP hD hS hl
  refine va_newa (atype := .boolean) (a0 := (N, .inl (fun _ => 0))) C.ex C.co (C.ts _ ac_Z) rfl C.ka hP hD hS (fun q hq => Or.inr (by omega)) (fun _ => rfl) hn hN hb hc hs hd (fun q cA H1 hK1 hP1 hD1 hS1 => ?_)
  have e1 : s.vm.findClass ("[" ++ FieldType.boolean.toString) = some z.2.1 := (C.ka.2 1 _ rfl).2
  have e2 : s.vm.findClass ("[" ++ FieldType.boolean.toString) = some cA := (hK1.2 3 _ rfl).2
  have e3 : cA = z.2.1 := Option.some.inj (e2.symm.trans e1)
  subst e3
  exact h q p l e s m args below meth c H1 locs ls C hz hP1 hD1 hS1 hl
theorem n_newQ {n : Int32} {N index : Nat} (hd : decode cc pc = .ok (.anewarray index, 3)) (hw : Cond.classLink own index "BrinePans$Pans" ∈ gw) (hn : ¬ n < 0) (hN : n.toNatClampNeg = N) (hb : N * 4 ≤ 536870912) (hc : cells + 1 ≤ R.cells) (hs : slots + N ≤ R.slots) (h : ∀ a, JN D z own cc nL R q0 sz mc ms Post (cells + 1) (slots + N) (pc + 3) Lv (.ref a :: S) (ws ++ [(a, .inl (z.2.2, N, .inr (.inr (.inr (.inr (fun _ => none))))))])) : JN D z own cc nL R q0 sz mc ms Post cells slots pc Lv (.int n :: S) ws := by
  intro p l e s m args below meth c H locs ls C hz hP hD hS hl
  refine va_newq C.ex C.co C.ow (C.ts _ hw) C.ao C.ka hP hD hS (fun q hq => Or.inr (by omega)) hn hN hb hc hs hd (fun q cA H1 hK1 hP1 hD1 hS1 => ?_)
  obtain ⟨k1, p1, _, _, _, e1⟩ := (C.ka.2 2 _ rfl).2
  obtain ⟨k2, p2, _, _, _, e2⟩ := (hK1.2 3 _ rfl).2
  have e3 : cA = z.2.2 := Option.some.inj (e2.symm.trans e1)
  subst e3
  exact h q p l e s m args below meth c H1 locs ls C hz hP1 hD1 hS1 hl
theorem n_new {index ci N : Nat} {Cl : String} {T : u_T} {ty : Nat → FieldType} {fs : List Value} (hd : decode cc pc = .ok (.new index, 3)) (hw : Cond.classLink own index Cl ∈ gw) (hN : NC Cl T N ci ty) (hfs : ∀ j, j < N → defaultValue (ty j) = vp_V fs j) (hc : cells + 1 ≤ R.cells) (hs : slots + N ≤ R.slots) (h : ∀ a, JN D z own cc nL R q0 sz mc ms Post (cells + 1) (slots + N) (pc + 3) Lv (.ref a :: S) (ws ++ [(a, .inr (ci, fs))])) : JN D z own cc nL R q0 sz mc ms Post cells slots pc Lv S ws :=
  fun p l e s m args below meth c H locs ls C hz hP hD hS hl => va_new C.ex C.co C.ts hN.2.1 ty hN.2.2.1 C.ow (C.ts _ hw) (C.ts _ hN.2.2.2.1) (C.ts _ hN.2.2.2.2) C.ka hP hD hS (fun q hq => Or.inr (by omega)) hN.1 hfs hc hs hd (fun q H1 hP1 hD1 hS1 => h q p l e s m args below meth c H1 locs ls C hz hP1 hD1 hS1 hl)
theorem n_putF {index ci k a : Nat} {ty : FieldType} {v : Value} {fs : List Value} (j : Nat) (hd : decode cc pc = .ok (.putfield index, 3)) (hf : FF own index ci k ty) (he : ws[j]? = some (a, .inr (ci, fs))) (hn : narrow ty v = v) (hfit : fits ty v = true) (hk : k < fs.length) (h : JN D z own cc nL R q0 sz mc ms Post cells slots (pc + 3) Lv S (ws.set j (a, .inr (ci, fs.set k v)))) : JN D z own cc nL R q0 sz mc ms Post cells slots pc Lv (v :: .ref a :: S) ws := by
  intro p l e s m args below meth c H locs ls C hz hP hD hS hl
  obtain ⟨⟨Cn', T, N, ty0, f1, f2, f3, f4, f5, f6, f7⟩, C2, T2, N2, g1, g2, g3, g4, g5⟩ := hf
  have eq := Option.some.inj (f1.symm.trans g1)
  cases eq
  exact va_putF C.ex C.co C.ts f2 ty0 f3 f4 C.ow C.ka hP hD hS j he f1 k f5 (C.ts _ g2) (fun x hx => by rw [f6] at hx; exact hx) g3 C.nm g4 g5 hn hfit hk hd (fun H1 locs1 hP1 hD1 hS1 => h p l e s m args below meth c H1 locs1 ls C hz hP1 hD1 hS1 hl)
theorem n_put {index ci k a : Nat} {ty : FieldType} {v : Value} {fs : List Value} (j : Nat) (hd : decode cc pc = .ok (.putfield index, 3)) (hf : FP own index ci k ty) (he : ws[j]? = some (a, .inr (ci, fs))) (hn : narrow ty v = v) (hfit : fits ty v = true) (hk : k < fs.length) (h : JN D z own cc nL R q0 sz mc ms Post cells slots (pc + 3) Lv S (ws.set j (a, .inr (ci, fs.set k v)))) : JN D z own cc nL R q0 sz mc ms Post cells slots pc Lv (v :: .ref a :: S) ws := by
  intro p l e s m args below meth c H locs ls C hz hP hD hS hl
  obtain ⟨⟨Cn', T, N, ty0, f1, f2, f3, f4, f5, f6, f7⟩, g⟩ := hf
  obtain ⟨g1, g2⟩ := g _ f1
  have kk := fun (H1 : Heap) (locs1 : List Loc) hP1 hD1 hS1 => h p l e s m args below meth c H1 locs1 ls C hz hP1 hD1 hS1 hl
  rcases f7 with f7 | ⟨host, f7⟩
  · exact va_put C.ex C.co C.ts f2 ty0 f3 f4 C.ow C.ka hP hD hS j he f1 k f5 (C.ts _ f7) (fun x hx => by rw [f6] at hx; exact hx) g1 g2 hn hfit hk hd kk
  · exact va_putN C.ex C.co C.ts f2 ty0 f3 f4 C.ow C.ka hP hD hS j he f1 k f5 (va_Nw.use rfl (C.ne _ f7)) (fun x hx => by rw [f6] at hx; exact hx) g1 g2 hn hfit hk hd kk
theorem n_get {index ci k a : Nat} {v : Value} {fs : List Value} (j : Nat) (hd : decode cc pc = .ok (.getfield index, 3)) (hf : FK own index ci k) (he : ws[j]? = some (a, .inr (ci, fs))) (hv : fs[k]? = some v) (h : JN D z own cc nL R q0 sz mc ms Post cells slots (pc + 3) Lv (v :: S) ws) : JN D z own cc nL R q0 sz mc ms Post cells slots pc Lv (.ref a :: S) ws := by
  intro p l e s m args below meth c H locs ls C hz hP hD hS hl
  obtain ⟨Cn', T, N, ty0, f1, f2, f3, f4, f5, f6, f7⟩ := hf
  have kk := h p l e s m args below meth c H locs ls C hz hP hD hS hl
  rcases f7 with f7 | ⟨host, f7⟩
  · exact va_get C.ex C.co C.ts f2 C.ow C.ka hP j he f1 k f5 (C.ts _ f7) (fun x hx => by rw [f6] at hx; exact hx) hv hd kk
  · exact va_getN C.ex C.co C.ts f2 C.ow C.ka hP j he f1 k f5 (va_Nw.use rfl (C.ne _ f7)) (fun x hx => by rw [f6] at hx; exact hx) hv hd kk
theorem n_aast {a n v : Nat} {i : Int32} {f : Nat → Option Nat} {vs : List Value} (ja jv : Nat) (hd : decode cc pc = .ok (.aastore, 1)) (ha : ws[ja]? = some (a, .inl (z.2.2, n, .inr (.inr (.inr (.inr f)))))) (hv : ws[jv]? = some (v, .inr (3, vs))) (hin : vp_in i n) (h : JN D z own cc nL R q0 sz mc ms Post cells slots (pc + 1) Lv S (ws.set ja (a, .inl (z.2.2, n, .inr (.inr (.inr (.inr (va_up f i.toNatClampNeg (some v))))))))) : JN D z own cc nL R q0 sz mc ms Post cells slots pc Lv (.ref v :: .int i :: .ref a :: S) ws :=
  fun p l e s m args below meth c H locs ls C hz hP hD hS hl => va_astq (r := (cPan, tPan, 6)) C.ex C.co C.ka hP hD hS ja 2 jv 3 ha rfl hv rfl hin hd (fun H1 locs1 hP1 hD1 hS1 => h p l e s m args below meth c H1 locs1 ls C hz hP1 hD1 hS1 hl)
theorem n_call {index : Nat} {y : MethodName} {bytes : ByteArray} {maxL n mc1 ms1 : Nat} {rm : Room} {qn : Nat} {e0 : va_E} {Post1 : va_W → Prop} {st0 : List Value} {host : String} (As : List Value) (hd : decode cc pc = .ok (.invokespecial index, 3)) (hm : MI y bytes maxL n) (hl1 : Cond.methodLinkNest own index y host ∈ nw) (hst : st0 = As.reverse ++ .ref qn :: S) (hn : As.length = n) (hc : CI D z y bytes maxL rm mc1 ms1 (.ref qn :: As) qn e0 Post1) (hr : rm.cells = mc1 ∧ rm.slots = ms1) (hR : rm.frames + 1 ≤ R.frames ∧ 8 + (maxL + 11) + rm.locals ≤ R.locals) (hcs : cells + mc1 ≤ R.cells ∧ slots + ms1 ≤ R.slots) (hS8 : (S.map (fun v => v.category)).sum ≤ 8)
    (h : ∀ w1, Post1 w1 → JN D z own cc nL R q0 sz mc ms Post (cells + mc1) (slots + ms1) (pc + 3) Lv S (ws ++ w1)) : JN D z own cc nL R q0 sz mc ms Post cells slots pc Lv st0 (ws ++ [(qn, e0)]) := by
  intro p l e s m args below meth c H locs ls C hz hP hD hS hl
  subst hst
  have hP1 : va_P D classes [(qn, e0)] H := fun k x hx => by
    have hk := (List.getElem?_eq_some_iff.mp hx).1
    have hk0 : k = 0 := by simpa using hk
    subst hk0
    cases hx
    exact hP ws.length _ (by simp)
  exact w_init (va_runIN (As := As) (rest := S) ⟨C.ex, C.co, C.ml, C.ow, C.ts⟩ (hc l H.size) ⟨va_cnB n C.ts (gw_good (fun w hw5 => (List.mem_cons.mp hw5).elim (fun e5 => by rw [e5]; exact hm.1) (fun h5 => h5))) rfl hr.1 hr.2 (C.ne _ hl1) (C.ts _ hm.2.1) hm.2.2.2.2 hR, hm.2.2.2.1, C.ts _ hm.2.2.1⟩ ⟨PN_blind D z _ qn H.size e0, fun U hU hW => ⟨rfl, by rw [hU], by rw [hU]; exact hP1, va_K.moved hW.alike C.ka, C.ne.warm hW, va_AO.moved hW.alike C.ao⟩⟩ rfl hn hl.1 rfl (lv_room hS8) hd hcs) hP hD hS (fun q hq => Or.inr (by omega)) (fun w1 H1 locs1 hp1 hP2 hD2 hS2 => h w1 hp1 p l e s m args below meth c H1 locs1 ls C hz hP2 hD2 hS2 hl)
theorem n_ret (hd : decode cc pc = .ok (.return_, 1)) (hp : Post ws) : JN D z own cc nL R q0 sz mc ms Post mc ms pc Lv [] ws :=
  fun p l e s m args below meth c H locs ls C hz hP hD hS hl => W.vret C.ex C.co C.re (fun t ht hW => ⟨⟨rfl, ws, hp, by rw [ht]; exact hP, hD⟩, hS.F ht⟩) hS.2.2 hd C.lk
end NR
