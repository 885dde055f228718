/-! the judgement: from here the machine comes to an end that 'out' describes, if 'o' is 'out' -/
abbrev PZT : Type := Out → List Frame → Array Value → State → State → Prop
def JO (K : KK) (own : String) (cc : ByteArray) (nL : Nat) (ret : Option FieldType) (R : Room) (kc ns : Nat) (PZ : PZT) (pc : Nat) (L : List (Option Value)) (S : List Value) (X : HI) (Y : HL) (o : Option Out) : Prop :=
  ∀ out, o = some out → ∀ (p : Program) (l : Launch) (e : Env) (s : State) (m : MethodId) (args : Array Value) (below : List Frame) (meth : Method) (c : Code) (H : Heap) (locs : List Loc) (ls : Array Slot),
    Cx K own cc nL ret p s m args meth c → va_P (kD K) classes (wsOf K X Y) H → va_S (kA K) s.heap H locs → lvs K ls nL L →
    W p l e R s m args below meth c H locs kc ns (PZ out below args s) (F0 m pc ls (S.map (trV K)))
def QcO (K : KK) (out : Out) : Array Value → State → Outcome → State → Prop := fun _ st o t => (o = .returned (out.1.map (trV K)) ∧ va_P (kD K) classes (wsOf K out.2.1 out.2.2) t.heap) ∧ va_F (kA K) st t
def MZ (K : KK) : PZT := fun out below args s => MQ below (QcO K out) args s 0 0 (kA K)
def Pk (K : KK) (X : HI) (Y : HL) : State → Prop := fun U => va_P (kD K) classes (wsOf K X Y) U.heap ∧ va_K (kD K) classes (kT K) U ∧ kN U ∧ kSt K U
/-- a method's contract: if 'o' is 'out', it ends so -/
def CT (K : KK) (y : MethodName) (bytes : ByteArray) (maxL : Nat) (ret : Option FieldType) (rm : Room) (av : List Value) (X : HI) (Y : HL) (o : Option Out) : Prop :=
  ∀ out, o = some out → ∀ l : Launch, Met l y (.code y bytes maxL ret :: gw) rm (va_Pc (av.map (trV K)) (Pk K X Y)) (QcO K out) 0 0 (kA K)
def eL : List Value → List (Option Value)
  | [] => []
  | v :: t => if v.category = 2 then some v :: none :: eL t else some v :: eL t
theorem eL_args (K : KK) : ∀ (av : List Value) (i : Nat) (q : Nat × Value), q ∈ Lp K i (eL av) → q ∈ lv_args i (av.map (trV K))
  | [], i, q, h => by simp [eL, Lp] at h
  | v :: t, i, q, h => by
    rw [List.map_cons, lv_args, trV_cat]
    by_cases hc : v.category = 2
    · rw [eL, if_pos hc, Lp, Lp] at h
      rw [if_pos hc]
      rcases List.mem_cons.mp h with h | h
      · rw [h]; exact List.mem_cons_self
      · exact List.mem_cons_of_mem _ (eL_args K t (i + 2) q h)
    · rw [eL, if_neg hc, Lp] at h
      rw [if_neg hc]
      rcases List.mem_cons.mp h with h | h
      · rw [h]; exact List.mem_cons_self
      · exact List.mem_cons_of_mem _ (eL_args K t (i + 1) q h)
theorem ct_of {K : KK} (hK : kOK K) {y : MethodName} {bytes : ByteArray} {maxL : Nat} {ret : Option FieldType} {rm : Room} {av : List Value} {X : HI} {Y : HL} {o : Option Out} {L : List (Option Value)} (hy : plainName y.cls = true)
    (hL : subL L (eL av)) (hn : ((av.map (fun v => v.category)).sum ≤ maxL)) (h : JO K y.cls bytes maxL ret rm 0 0 (MZ K) 0 L [] X Y o) : CT K y bytes maxL ret rm av X Y o := by
  intro out ho l
  refine Met.ofW (cc := bytes) (maxL := maxL) (ret := ret) hy rfl ?_
  intro p e s m args below meth c s₁ B hml hv
  obtain ⟨rfl, hP, hKa, hN, hSt⟩ := hv
  have hts := atoms_spec (ws := .code y bytes maxL ret :: gw) B.pre
  have hown : s.vm.findClass y.cls = some m.cls := findClass_of_methodNamed B.named
  have hlen : ∀ vs : List Value, (lg_sl vs).length = (vs.map (fun v => v.category)).sum := by
    intro vs
    induction vs with
    | nil => rfl
    | cons v t ih =>
      have e : lg_sl (v :: t) = (if v.category = 2 then [.val v, .second] else [.val v]) ++ lg_sl t := rfl
      rw [e, List.length_append, ih, List.map_cons, List.sum_cons]
      rcases lv_cat v with q | q <;> simp [q]
  have hcat : ((av.map (trV K)).map (fun v => v.category)).sum = (av.map (fun v => v.category)).sum := by
    rw [List.map_map]
    congr 1
    apply List.map_congr_left
    intro v _
    exact trV_cat K v
  have hl := lv_entry (av.map (trV K)) (n := maxL) (by rw [hlen, hcat]; exact hn)
  rw [lg_entry_eq]
  have hl2 : lvs K _ maxL (eL av) := lv_mono hl (fun q hq => eL_args K av 0 q hq)
  exact h out ho p l e s m _ below meth c s.heap [] _ ⟨B.exec, B.bytes, B.returns, hml, hown, fun w hw => hts w (List.mem_cons_of_mem _ hw), B.notSynchronized, hKa, hK, hN, hSt⟩ hP va_S.rf (hl2.sub hL)
-- the words of o
def gd (b : Bool) (o : Option Out) : Option Out := match b with
  | true => o
  | false => none
def wr (b : Bool) (X : HI) (k : HI → Option Out) : Option Out := match b with
  | true => k X
  | false => none
def lt (v : Int32) (k : Int32 → Option Out) : Option Out := k v
def ltl (v : Int64) (k : Int64 → Option Out) : Option Out := k v
def lh (X : HI) (k : HI → Option Out) : Option Out := k X
def lhY (Y : HL) (k : HL → Option Out) : Option Out := k Y
def bi (o : Option Out) (k : Int32 → HI → HL → Option Out) : Option Out := match o with
  | some (some (.int r), X, Y) => k r X Y
  | _ => none
def bl (o : Option Out) (k : Int64 → HI → HL → Option Out) : Option Out := match o with
  | some (some (.long r), X, Y) => k r X Y
  | _ => none
def bv (o : Option Out) (k : HI → HL → Option Out) : Option Out := match o with
  | some (none, X, Y) => k X Y
  | _ => none
def br (n : Nat) (o : Option Out) (k : HI → HL → Option Out) : Option Out := match o with
  | some (some (.ref a), X, Y) => if a = n then k X Y else none
  | _ => none
def rI (v : Int32) (X : HI) (Y : HL) : Option Out := some (some (.int v), X, Y)
def rL (v : Int64) (X : HI) (Y : HL) : Option Out := some (some (.long v), X, Y)
def rR (v : Nat) (X : HI) (Y : HL) : Option Out := some (some (.ref v), X, Y)
def rV (X : HI) (Y : HL) : Option Out := some (none, X, Y)
def ixb (i : Int32) (n : Nat) : Bool := decide (0 ≤ i.toInt) && decide (i.toInt < n)
theorem ixb_in {i : Int32} {n : Nat} (h : ixb i n = true) : vp_in i n := by
  rw [vp_in_iff]
  simpa [ixb] using h
def nzb (i : Int32) : Bool := !(decide (i = 0))
def nzl (i : Int64) : Bool := !(decide (i = 0))
section JR
variable {K : KK} {own : String} {cc : ByteArray} {nL : Nat} {ret : Option FieldType} {R : Room} {kc ns : Nat} {PZ : PZT} {pc q : Nat} {L L' : List (Option Value)} {S : List Value} {X : HI} {Y : HL} {o o1 o2 : Option Out}
theorem j_none : JO K own cc nL ret R kc ns PZ pc L S X Y none := fun out h => by cases h
theorem j_sub (hs : subL L' L) (h : JO K own cc nL ret R kc ns PZ pc L' S X Y o) : JO K own cc nL ret R kc ns PZ pc L S X Y o :=
  fun out ho p l e s m args below meth c H locs ls C hP hS hl => h out ho p l e s m args below meth c H locs ls C hP hS (hl.sub hs)
theorem j_ite {c : Prop} [Decidable c] (h1 : c → JO K own cc nL ret R kc ns PZ pc L S X Y o1) (h2 : ¬ c → JO K own cc nL ret R kc ns PZ pc L S X Y o2) : JO K own cc nL ret R kc ns PZ pc L S X Y (if c then o1 else o2) := by
  by_cases hc : c
  · rw [if_pos hc]; exact h1 hc
  · rw [if_neg hc]; exact h2 hc
theorem j_iconst {n : Int} {v : Int32} (hd : decode cc pc = .ok (.iconst n, 1)) (hv : Int32.ofInt n = v) (hq : pc + 1 = q) (h : JO K own cc nL ret R kc ns PZ q L (.int v :: S) X Y o) : JO K own cc nL ret R kc ns PZ pc L S X Y o :=
  fun out ho p l e s m args below meth c H locs ls C hP hS hl => lv_iconst C.ex C.co hd hv (by subst hq; exact h out ho p l e s m args below meth c H locs ls C hP hS hl)
theorem j_bipush {n : Int} {v : Int32} (hd : decode cc pc = .ok (.bipush n, 2)) (hv : (Int8.ofInt n).toInt32 = v) (hq : pc + 2 = q) (h : JO K own cc nL ret R kc ns PZ q L (.int v :: S) X Y o) : JO K own cc nL ret R kc ns PZ pc L S X Y o :=
  fun out ho p l e s m args below meth c H locs ls C hP hS hl => lv_bipush C.ex C.co hd hv (by subst hq; exact h out ho p l e s m args below meth c H locs ls C hP hS hl)
theorem j_sipush {n : Int} {v : Int32} (hd : decode cc pc = .ok (.sipush n, 3)) (hv : (Int16.ofInt n).toInt32 = v) (hq : pc + 3 = q) (h : JO K own cc nL ret R kc ns PZ q L (.int v :: S) X Y o) : JO K own cc nL ret R kc ns PZ pc L S X Y o :=
  fun out ho p l e s m args below meth c H locs ls C hP hS hl => lv_sipush C.ex C.co hd hv (by subst hq; exact h out ho p l e s m args below meth c H locs ls C hP hS hl)
theorem j_lconst {n : Fin 2} {v : Int64} (hd : decode cc pc = .ok (.lconst n, 1)) (hv : Int64.ofNat (n : Nat) = v) (hq : pc + 1 = q) (h : JO K own cc nL ret R kc ns PZ q L (.long v :: S) X Y o) : JO K own cc nL ret R kc ns PZ pc L S X Y o :=
  fun out ho p l e s m args below meth c H locs ls C hP hS hl => lv_lconst C.ex C.co hd hv (by subst hq; exact h out ho p l e s m args below meth c H locs ls C hP hS hl)
theorem j_ldcw {index : Nat} {v : Int32} (hd : decode cc pc = .ok (.ldc_w index, 3)) (hw : Cond.constant own index v ∈ gw) (hq : pc + 3 = q) (h : JO K own cc nL ret R kc ns PZ q L (.int v :: S) X Y o) : JO K own cc nL ret R kc ns PZ pc L S X Y o :=
  fun out ho p l e s m args below meth c H locs ls C hP hS hl => lv_ldcw C.ex C.co C.ow (C.ts _ hw) hd (by subst hq; exact h out ho p l e s m args below meth c H locs ls C hP hS hl)
theorem j_ldc2 {index : Nat} {v : Int64} (hd : decode cc pc = .ok (.ldc2_w index, 3)) (hw : Cond.constantLong own index v ∈ gw) (hq : pc + 3 = q) (h : JO K own cc nL ret R kc ns PZ q L (.long v :: S) X Y o) : JO K own cc nL ret R kc ns PZ pc L S X Y o :=
  fun out ho p l e s m args below meth c H locs ls C hP hS hl => lv_ldc2 C.ex C.co C.ow (C.ts _ hw) hd (by subst hq; exact h out ho p l e s m args below meth c H locs ls C hP hS hl)
theorem j_iload_n {k : Fin 4} {i : Nat} {x : Int32} (hd : decode cc pc = .ok (.iload_n k, 1)) (hi : (k : Nat) = i) (hl0 : L[i]? = some (some (.int x))) (hq : pc + 1 = q) (h : JO K own cc nL ret R kc ns PZ q L (.int x :: S) X Y o) : JO K own cc nL ret R kc ns PZ pc L S X Y o :=
  fun out ho p l e s m args below meth c H locs ls C hP hS hl => lv_iload_n C.ex C.co hd hi (hl.at hl0) (by subst hq; exact h out ho p l e s m args below meth c H locs ls C hP hS hl)
theorem j_iload {i : Nat} {x : Int32} (hd : decode cc pc = .ok (.iload i, 2)) (hl0 : L[i]? = some (some (.int x))) (hq : pc + 2 = q) (h : JO K own cc nL ret R kc ns PZ q L (.int x :: S) X Y o) : JO K own cc nL ret R kc ns PZ pc L S X Y o :=
  fun out ho p l e s m args below meth c H locs ls C hP hS hl => lv_iload C.ex C.co hd (hl.at hl0) (by subst hq; exact h out ho p l e s m args below meth c H locs ls C hP hS hl)
theorem j_lload_n {k : Fin 4} {i : Nat} {x : Int64} (hd : decode cc pc = .ok (.lload_n k, 1)) (hi : (k : Nat) = i) (hl0 : L[i]? = some (some (.long x))) (hq : pc + 1 = q) (h : JO K own cc nL ret R kc ns PZ q L (.long x :: S) X Y o) : JO K own cc nL ret R kc ns PZ pc L S X Y o :=
  fun out ho p l e s m args below meth c H locs ls C hP hS hl => lv_lload_n C.ex C.co hd hi (hl.at hl0) (by subst hq; exact h out ho p l e s m args below meth c H locs ls C hP hS hl)
theorem j_lload {i : Nat} {x : Int64} (hd : decode cc pc = .ok (.lload i, 2)) (hl0 : L[i]? = some (some (.long x))) (hq : pc + 2 = q) (h : JO K own cc nL ret R kc ns PZ q L (.long x :: S) X Y o) : JO K own cc nL ret R kc ns PZ pc L S X Y o :=
  fun out ho p l e s m args below meth c H locs ls C hP hS hl => lv_lload C.ex C.co hd (hl.at hl0) (by subst hq; exact h out ho p l e s m args below meth c H locs ls C hP hS hl)
theorem j_aload_n {k : Fin 4} {i : Nat} {x : Nat} (hd : decode cc pc = .ok (.aload_n k, 1)) (hi : (k : Nat) = i) (hl0 : L[i]? = some (some (.ref x))) (hq : pc + 1 = q) (h : JO K own cc nL ret R kc ns PZ q L (.ref x :: S) X Y o) : JO K own cc nL ret R kc ns PZ pc L S X Y o :=
  fun out ho p l e s m args below meth c H locs ls C hP hS hl => lv_aload_n C.ex C.co hd hi (hl.at hl0) (by subst hq; exact h out ho p l e s m args below meth c H locs ls C hP hS hl)
theorem j_aload {i : Nat} {x : Nat} (hd : decode cc pc = .ok (.aload i, 2)) (hl0 : L[i]? = some (some (.ref x))) (hq : pc + 2 = q) (h : JO K own cc nL ret R kc ns PZ q L (.ref x :: S) X Y o) : JO K own cc nL ret R kc ns PZ pc L S X Y o :=
  fun out ho p l e s m args below meth c H locs ls C hP hS hl => lv_aload C.ex C.co hd (hl.at hl0) (by subst hq; exact h out ho p l e s m args below meth c H locs ls C hP hS hl)
theorem j_istore_n {k : Fin 4} {i : Nat} {x : Int32} (hd : decode cc pc = .ok (.istore_n k, 1)) (hi : (k : Nat) = i) (hn : i < nL) (hok : okS L i = true) (hL : L.set i (some (.int x)) = L') (hq : pc + 1 = q) (h : JO K own cc nL ret R kc ns PZ q L' S X Y o) : JO K own cc nL ret R kc ns PZ pc L (.int x :: S) X Y o :=
  fun out ho p l e s m args below meth c H locs ls C hP hS hl => lv_istore_n C.ex C.co hd hi hl hn rfl (fun ls' hl' => by subst hq; subst hL; exact h out ho p l e s m args below meth c H locs ls' C hP hS (lv_mono hl' (st1 hok)))
theorem j_istore {i : Nat} {x : Int32} (hd : decode cc pc = .ok (.istore i, 2)) (hn : i < nL) (hok : okS L i = true) (hL : L.set i (some (.int x)) = L') (hq : pc + 2 = q) (h : JO K own cc nL ret R kc ns PZ q L' S X Y o) : JO K own cc nL ret R kc ns PZ pc L (.int x :: S) X Y o :=
  fun out ho p l e s m args below meth c H locs ls C hP hS hl => lv_istore C.ex C.co hd hl hn rfl (fun ls' hl' => by subst hq; subst hL; exact h out ho p l e s m args below meth c H locs ls' C hP hS (lv_mono hl' (st1 hok)))
theorem j_astore_n {k : Fin 4} {i : Nat} {x : Nat} (hd : decode cc pc = .ok (.astore_n k, 1)) (hi : (k : Nat) = i) (hn : i < nL) (hok : okS L i = true) (hL : L.set i (some (.ref x)) = L') (hq : pc + 1 = q) (h : JO K own cc nL ret R kc ns PZ q L' S X Y o) : JO K own cc nL ret R kc ns PZ pc L (.ref x :: S) X Y o :=
  fun out ho p l e s m args below meth c H locs ls C hP hS hl => lv_astore_n C.ex C.co hd hi hl hn rfl (fun ls' hl' => by subst hq; subst hL; exact h out ho p l e s m args below meth c H locs ls' C hP hS (lv_mono hl' (st1 (v := .ref x) hok)))
theorem j_astore {i : Nat} {x : Nat} (hd : decode cc pc = .ok (.astore i, 2)) (hn : i < nL) (hok : okS L i = true) (hL : L.set i (some (.ref x)) = L') (hq : pc + 2 = q) (h : JO K own cc nL ret R kc ns PZ q L' S X Y o) : JO K own cc nL ret R kc ns PZ pc L (.ref x :: S) X Y o :=
  fun out ho p l e s m args below meth c H locs ls C hP hS hl => lv_astore C.ex C.co hd hl hn rfl (fun ls' hl' => by subst hq; subst hL; exact h out ho p l e s m args below meth c H locs ls' C hP hS (lv_mono hl' (st1 (v := .ref x) hok)))
theorem j_lstore_n {k : Fin 4} {i : Nat} {x : Int64} (hd : decode cc pc = .ok (.lstore_n k, 1)) (hi : (k : Nat) = i) (hn : i + 1 < nL) (hok : okS L i = true) (hL : (L.set i (some (.long x))).set (i + 1) none = L') (hq : pc + 1 = q) (h : JO K own cc nL ret R kc ns PZ q L' S X Y o) : JO K own cc nL ret R kc ns PZ pc L (.long x :: S) X Y o :=
  fun out ho p l e s m args below meth c H locs ls C hP hS hl => lv_lstore_n C.ex C.co hd hi hl hn rfl (fun ls' hl' => by subst hq; subst hL; exact h out ho p l e s m args below meth c H locs ls' C hP hS (lv_mono hl' (st2 hok)))
theorem j_iinc {i : Nat} {n : Int} {x d : Int32} (hd : decode cc pc = .ok (.iinc i n, 3)) (hl0 : L[i]? = some (some (.int x))) (hv : Int32.ofInt n = d) (hn : i < nL) (hok : okS L i = true) (hL : L.set i (some (.int (x + d))) = L') (hq : pc + 3 = q) (h : JO K own cc nL ret R kc ns PZ q L' S X Y o) : JO K own cc nL ret R kc ns PZ pc L S X Y o := by
  intro out ho p l e s m args below meth c H locs ls C hP hS hl
  have hm : (i, Value.int x) ∈ Lp K 0 L := (Lp_iff L 0 _).mpr ⟨i, .int x, hl0, by rw [Nat.zero_add]; rfl⟩
  obtain ⟨k, hk⟩ := List.getElem?_of_mem hm
  exact lv_iinc (v := x + d) C.ex C.co hd hl hk (by rw [hv]) hn rfl (fun ls' hl' => by subst hq; subst hL; exact h out ho p l e s m args below meth c H locs ls' C hP hS (lv_mono hl' (st1 hok)))
-- names for what is stored
theorem j_lt {v : Int32} {k : Int32 → Option Out} (h : ∀ x, JO K own cc nL ret R kc ns PZ pc L (.int x :: S) X Y (k x)) : JO K own cc nL ret R kc ns PZ pc L (.int v :: S) X Y (lt v k) := h v
theorem j_ltl {v : Int64} {k : Int64 → Option Out} (h : ∀ x, JO K own cc nL ret R kc ns PZ pc L (.long x :: S) X Y (k x)) : JO K own cc nL ret R kc ns PZ pc L (.long v :: S) X Y (ltl v k) := h v
theorem j_idiv {x y : Int32} (hd : decode cc pc = .ok (.idiv, 1)) (hq : pc + 1 = q) (h : JO K own cc nL ret R kc ns PZ q L (.int (x / y) :: S) X Y o) : JO K own cc nL ret R kc ns PZ pc L (.int y :: .int x :: S) X Y (gd (nzb y) o) := by
  intro out ho p l e s m args below meth c H locs ls C hP hS hl
  cases hb : nzb y with
  | false => rw [hb] at ho; cases ho
  | true =>
    rw [hb] at ho
    exact lv_idiv C.ex C.co hd (by simpa [nzb] using hb) (by subst hq; exact h out ho p l e s m args below meth c H locs ls C hP hS hl)
theorem j_irem {x y : Int32} (hd : decode cc pc = .ok (.irem, 1)) (hq : pc + 1 = q) (h : JO K own cc nL ret R kc ns PZ q L (.int (x - x / y * y) :: S) X Y o) : JO K own cc nL ret R kc ns PZ pc L (.int y :: .int x :: S) X Y (gd (nzb y) o) := by
  intro out ho p l e s m args below meth c H locs ls C hP hS hl
  cases hb : nzb y with
  | false => rw [hb] at ho; cases ho
  | true =>
    rw [hb] at ho
    exact lv_irem C.ex C.co hd (by simpa [nzb] using hb) (by subst hq; exact h out ho p l e s m args below meth c H locs ls C hP hS hl)
theorem j_ldiv {x y : Int64} (hd : decode cc pc = .ok (.ldiv, 1)) (hq : pc + 1 = q) (h : JO K own cc nL ret R kc ns PZ q L (.long (x / y) :: S) X Y o) : JO K own cc nL ret R kc ns PZ pc L (.long y :: .long x :: S) X Y (gd (nzl y) o) := by
  intro out ho p l e s m args below meth c H locs ls C hP hS hl
  cases hb : nzl y with
  | false => rw [hb] at ho; cases ho
  | true =>
    rw [hb] at ho
    exact lv_ldiv C.ex C.co hd (by simpa [nzl] using hb) (by subst hq; exact h out ho p l e s m args below meth c H locs ls C hP hS hl)
theorem j_lrem {x y : Int64} (hd : decode cc pc = .ok (.lrem, 1)) (hq : pc + 1 = q) (h : JO K own cc nL ret R kc ns PZ q L (.long (x - x / y * y) :: S) X Y o) : JO K own cc nL ret R kc ns PZ pc L (.long y :: .long x :: S) X Y (gd (nzl y) o) := by
  intro out ho p l e s m args below meth c H locs ls C hP hS hl
  cases hb : nzl y with
  | false => rw [hb] at ho; cases ho
  | true =>
    rw [hb] at ho
    exact lv_lrem C.ex C.co hd (by simpa [nzl] using hb) (by subst hq; exact h out ho p l e s m args below meth c H locs ls C hP hS hl)
theorem j_iadd {x y : Int32} (hd : decode cc pc = .ok (.iadd, 1)) (hq : pc + 1 = q) (h : JO K own cc nL ret R kc ns PZ q L (.int (x + y) :: S) X Y o) : JO K own cc nL ret R kc ns PZ pc L (.int y :: .int x :: S) X Y o :=
  fun out ho p l e s m args below meth c H locs ls C hP hS hl => lv_iadd C.ex C.co hd (by subst hq; exact h out ho p l e s m args below meth c H locs ls C hP hS hl)
theorem j_isub {x y : Int32} (hd : decode cc pc = .ok (.isub, 1)) (hq : pc + 1 = q) (h : JO K own cc nL ret R kc ns PZ q L (.int (x - y) :: S) X Y o) : JO K own cc nL ret R kc ns PZ pc L (.int y :: .int x :: S) X Y o :=
  fun out ho p l e s m args below meth c H locs ls C hP hS hl => lv_isub C.ex C.co hd (by subst hq; exact h out ho p l e s m args below meth c H locs ls C hP hS hl)
theorem j_imul {x y : Int32} (hd : decode cc pc = .ok (.imul, 1)) (hq : pc + 1 = q) (h : JO K own cc nL ret R kc ns PZ q L (.int (x * y) :: S) X Y o) : JO K own cc nL ret R kc ns PZ pc L (.int y :: .int x :: S) X Y o :=
  fun out ho p l e s m args below meth c H locs ls C hP hS hl => lv_imul C.ex C.co hd (by subst hq; exact h out ho p l e s m args below meth c H locs ls C hP hS hl)
theorem j_iand {x y : Int32} (hd : decode cc pc = .ok (.iand, 1)) (hq : pc + 1 = q) (h : JO K own cc nL ret R kc ns PZ q L (.int (x &&& y) :: S) X Y o) : JO K own cc nL ret R kc ns PZ pc L (.int y :: .int x :: S) X Y o :=
  fun out ho p l e s m args below meth c H locs ls C hP hS hl => lv_iand C.ex C.co hd (by subst hq; exact h out ho p l e s m args below meth c H locs ls C hP hS hl)
theorem j_ior {x y : Int32} (hd : decode cc pc = .ok (.ior, 1)) (hq : pc + 1 = q) (h : JO K own cc nL ret R kc ns PZ q L (.int (x ||| y) :: S) X Y o) : JO K own cc nL ret R kc ns PZ pc L (.int y :: .int x :: S) X Y o :=
  fun out ho p l e s m args below meth c H locs ls C hP hS hl => lv_ior C.ex C.co hd (by subst hq; exact h out ho p l e s m args below meth c H locs ls C hP hS hl)
theorem j_ixor {x y : Int32} (hd : decode cc pc = .ok (.ixor, 1)) (hq : pc + 1 = q) (h : JO K own cc nL ret R kc ns PZ q L (.int (x ^^^ y) :: S) X Y o) : JO K own cc nL ret R kc ns PZ pc L (.int y :: .int x :: S) X Y o :=
  fun out ho p l e s m args below meth c H locs ls C hP hS hl => lv_ixor C.ex C.co hd (by subst hq; exact h out ho p l e s m args below meth c H locs ls C hP hS hl)
theorem j_ishl {x y : Int32} (hd : decode cc pc = .ok (.ishl, 1)) (hq : pc + 1 = q) (h : JO K own cc nL ret R kc ns PZ q L (.int (x <<< (y &&& 31)) :: S) X Y o) : JO K own cc nL ret R kc ns PZ pc L (.int y :: .int x :: S) X Y o :=
  fun out ho p l e s m args below meth c H locs ls C hP hS hl => lv_ishl C.ex C.co hd (by subst hq; exact h out ho p l e s m args below meth c H locs ls C hP hS hl)
theorem j_ishr {x y : Int32} (hd : decode cc pc = .ok (.ishr, 1)) (hq : pc + 1 = q) (h : JO K own cc nL ret R kc ns PZ q L (.int (x >>> (y &&& 31)) :: S) X Y o) : JO K own cc nL ret R kc ns PZ pc L (.int y :: .int x :: S) X Y o :=
  fun out ho p l e s m args below meth c H locs ls C hP hS hl => lv_ishr C.ex C.co hd (by subst hq; exact h out ho p l e s m args below meth c H locs ls C hP hS hl)
theorem j_iushr {x y : Int32} (hd : decode cc pc = .ok (.iushr, 1)) (hq : pc + 1 = q) (h : JO K own cc nL ret R kc ns PZ q L (.int ((x.toUInt32 >>> (y.toUInt32 &&& Int32.toUInt32 31)).toInt32) :: S) X Y o) : JO K own cc nL ret R kc ns PZ pc L (.int y :: .int x :: S) X Y o :=
  fun out ho p l e s m args below meth c H locs ls C hP hS hl => lv_iushr C.ex C.co hd rfl (by subst hq; exact h out ho p l e s m args below meth c H locs ls C hP hS hl)
theorem j_ineg {x : Int32} (hd : decode cc pc = .ok (.ineg, 1)) (hq : pc + 1 = q) (h : JO K own cc nL ret R kc ns PZ q L (.int (-x) :: S) X Y o) : JO K own cc nL ret R kc ns PZ pc L (.int x :: S) X Y o :=
  fun out ho p l e s m args below meth c H locs ls C hP hS hl => lv_ineg C.ex C.co hd (by subst hq; exact h out ho p l e s m args below meth c H locs ls C hP hS hl)
theorem j_ladd {x y : Int64} (hd : decode cc pc = .ok (.ladd, 1)) (hq : pc + 1 = q) (h : JO K own cc nL ret R kc ns PZ q L (.long (x + y) :: S) X Y o) : JO K own cc nL ret R kc ns PZ pc L (.long y :: .long x :: S) X Y o :=
  fun out ho p l e s m args below meth c H locs ls C hP hS hl => lv_ladd C.ex C.co hd (by subst hq; exact h out ho p l e s m args below meth c H locs ls C hP hS hl)
theorem j_lsub {x y : Int64} (hd : decode cc pc = .ok (.lsub, 1)) (hq : pc + 1 = q) (h : JO K own cc nL ret R kc ns PZ q L (.long (x - y) :: S) X Y o) : JO K own cc nL ret R kc ns PZ pc L (.long y :: .long x :: S) X Y o :=
  fun out ho p l e s m args below meth c H locs ls C hP hS hl => lv_lsub C.ex C.co hd (by subst hq; exact h out ho p l e s m args below meth c H locs ls C hP hS hl)
theorem j_lmul {x y : Int64} (hd : decode cc pc = .ok (.lmul, 1)) (hq : pc + 1 = q) (h : JO K own cc nL ret R kc ns PZ q L (.long (x * y) :: S) X Y o) : JO K own cc nL ret R kc ns PZ pc L (.long y :: .long x :: S) X Y o :=
  fun out ho p l e s m args below meth c H locs ls C hP hS hl => lv_lmul C.ex C.co hd (by subst hq; exact h out ho p l e s m args below meth c H locs ls C hP hS hl)
theorem j_land {x y : Int64} (hd : decode cc pc = .ok (.land, 1)) (hq : pc + 1 = q) (h : JO K own cc nL ret R kc ns PZ q L (.long (x &&& y) :: S) X Y o) : JO K own cc nL ret R kc ns PZ pc L (.long y :: .long x :: S) X Y o :=
  fun out ho p l e s m args below meth c H locs ls C hP hS hl => lv_land C.ex C.co hd (by subst hq; exact h out ho p l e s m args below meth c H locs ls C hP hS hl)
theorem j_lor {x y : Int64} (hd : decode cc pc = .ok (.lor, 1)) (hq : pc + 1 = q) (h : JO K own cc nL ret R kc ns PZ q L (.long (x ||| y) :: S) X Y o) : JO K own cc nL ret R kc ns PZ pc L (.long y :: .long x :: S) X Y o :=
  fun out ho p l e s m args below meth c H locs ls C hP hS hl => lv_lor C.ex C.co hd (by subst hq; exact h out ho p l e s m args below meth c H locs ls C hP hS hl)
theorem j_lshl {x : Int64} {y : Int32} (hd : decode cc pc = .ok (.lshl, 1)) (hq : pc + 1 = q) (h : JO K own cc nL ret R kc ns PZ q L (.long (x <<< (y.toInt64 &&& 63)) :: S) X Y o) : JO K own cc nL ret R kc ns PZ pc L (.int y :: .long x :: S) X Y o :=
  fun out ho p l e s m args below meth c H locs ls C hP hS hl => lv_lshl C.ex C.co hd rfl (by subst hq; exact h out ho p l e s m args below meth c H locs ls C hP hS hl)
theorem j_lushr {x : Int64} {y : Int32} (hd : decode cc pc = .ok (.lushr, 1)) (hq : pc + 1 = q) (h : JO K own cc nL ret R kc ns PZ q L (.long ((x.toUInt64 >>> (y.toInt64.toUInt64 &&& Int64.toUInt64 63)).toInt64) :: S) X Y o) : JO K own cc nL ret R kc ns PZ pc L (.int y :: .long x :: S) X Y o :=
  fun out ho p l e s m args below meth c H locs ls C hP hS hl => lv_lushr C.ex C.co hd rfl (by subst hq; exact h out ho p l e s m args below meth c H locs ls C hP hS hl)
theorem j_i2l {x : Int32} (hd : decode cc pc = .ok (.i2l, 1)) (hq : pc + 1 = q) (h : JO K own cc nL ret R kc ns PZ q L (.long x.toInt64 :: S) X Y o) : JO K own cc nL ret R kc ns PZ pc L (.int x :: S) X Y o :=
  fun out ho p l e s m args below meth c H locs ls C hP hS hl => lv_i2l C.ex C.co hd rfl (by subst hq; exact h out ho p l e s m args below meth c H locs ls C hP hS hl)
theorem j_l2i {x : Int64} (hd : decode cc pc = .ok (.l2i, 1)) (hq : pc + 1 = q) (h : JO K own cc nL ret R kc ns PZ q L (.int x.toInt32 :: S) X Y o) : JO K own cc nL ret R kc ns PZ pc L (.long x :: S) X Y o :=
  fun out ho p l e s m args below meth c H locs ls C hP hS hl => lv_l2i C.ex C.co hd rfl (by subst hq; exact h out ho p l e s m args below meth c H locs ls C hP hS hl)
theorem j_lcmp {x y : Int64} (hd : decode cc pc = .ok (.lcmp, 1)) (hq : pc + 1 = q) (h : JO K own cc nL ret R kc ns PZ q L (.int (lg_cmp x y) :: S) X Y o) : JO K own cc nL ret R kc ns PZ pc L (.long y :: .long x :: S) X Y o :=
  fun out ho p l e s m args below meth c H locs ls C hP hS hl => W.lcmp C.ex C.co hd (by subst hq; exact h out ho p l e s m args below meth c H locs ls C hP hS hl)
theorem j_dup {v : Value} (hd : decode cc pc = .ok (.dup, 1)) (hv : v.category = 1) (hq : pc + 1 = q) (h : JO K own cc nL ret R kc ns PZ q L (v :: v :: S) X Y o) : JO K own cc nL ret R kc ns PZ pc L (v :: S) X Y o :=
  fun out ho p l e s m args below meth c H locs ls C hP hS hl => lv_dup C.ex C.co hd (by rw [trV_cat]; exact hv) (by subst hq; exact h out ho p l e s m args below meth c H locs ls C hP hS hl)
theorem j_dup2 {v w : Value} (hd : decode cc pc = .ok (.dup2, 1)) (hv : v.category = 1) (hw : w.category = 1) (hq : pc + 1 = q) (h : JO K own cc nL ret R kc ns PZ q L (v :: w :: v :: w :: S) X Y o) : JO K own cc nL ret R kc ns PZ pc L (v :: w :: S) X Y o :=
  fun out ho p l e s m args below meth c H locs ls C hP hS hl => lv_dup2_11 C.ex C.co hd (by rw [trV_cat]; exact hv) (by rw [trV_cat]; exact hw) (by subst hq; exact h out ho p l e s m args below meth c H locs ls C hP hS hl)
theorem j_pop {v : Value} (hd : decode cc pc = .ok (.pop, 1)) (hv : v.category = 1) (hq : pc + 1 = q) (h : JO K own cc nL ret R kc ns PZ q L S X Y o) : JO K own cc nL ret R kc ns PZ pc L (v :: S) X Y o :=
  fun out ho p l e s m args below meth c H locs ls C hP hS hl => lv_pop C.ex C.co hd (by rw [trV_cat]; exact hv) (by subst hq; exact h out ho p l e s m args below meth c H locs ls C hP hS hl)
theorem j_goto {off : Int} (hd : decode cc pc = .ok (.goto off, 3)) (hq : (pc : Int) + off = (q : Int)) (h : JO K own cc nL ret R kc ns PZ q L S X Y o) : JO K own cc nL ret R kc ns PZ pc L S X Y o :=
  fun out ho p l e s m args below meth c H locs ls C hP hS hl => lv_goto C.ex C.co hd hq (h out ho p l e s m args below meth c H locs ls C hP hS hl)
theorem j_if_eq {x : Int32} {off : Int} {t : Nat} (hd : decode cc pc = .ok (.ifCond .eq off, 3)) (ht : (pc : Int) + off = (t : Int)) (hq : pc + 3 = q) (h1 : JO K own cc nL ret R kc ns PZ t L S X Y o1) (h2 : JO K own cc nL ret R kc ns PZ q L S X Y o2) : JO K own cc nL ret R kc ns PZ pc L (.int x :: S) X Y (if x = 0 then o1 else o2) := by
  intro out ho p l e s m args below meth c H locs ls C hP hS hl
  subst hq
  exact lv_if_eq C.ex C.co hd ht (fun z => h1 out (by rw [if_pos z] at ho; exact ho) p l e s m args below meth c H locs ls C hP hS hl) (fun z => h2 out (by rw [if_neg z] at ho; exact ho) p l e s m args below meth c H locs ls C hP hS hl)
theorem j_icmp_eq {x y : Int32} {off : Int} {t : Nat} (hd : decode cc pc = .ok (.if_icmp .eq off, 3)) (ht : (pc : Int) + off = (t : Int)) (hq : pc + 3 = q) (h1 : JO K own cc nL ret R kc ns PZ t L S X Y o1) (h2 : JO K own cc nL ret R kc ns PZ q L S X Y o2) : JO K own cc nL ret R kc ns PZ pc L (.int y :: .int x :: S) X Y (if x = y then o1 else o2) := by
  intro out ho p l e s m args below meth c H locs ls C hP hS hl
  subst hq
  exact lv_icmp_eq C.ex C.co hd ht (fun z => h1 out (by rw [if_pos z] at ho; exact ho) p l e s m args below meth c H locs ls C hP hS hl) (fun z => h2 out (by rw [if_neg z] at ho; exact ho) p l e s m args below meth c H locs ls C hP hS hl)
theorem j_if_ne {x : Int32} {off : Int} {t : Nat} (hd : decode cc pc = .ok (.ifCond .ne off, 3)) (ht : (pc : Int) + off = (t : Int)) (hq : pc + 3 = q) (h1 : JO K own cc nL ret R kc ns PZ t L S X Y o1) (h2 : JO K own cc nL ret R kc ns PZ q L S X Y o2) : JO K own cc nL ret R kc ns PZ pc L (.int x :: S) X Y (if x = 0 then o2 else o1) := by
  intro out ho p l e s m args below meth c H locs ls C hP hS hl
  subst hq
  exact lv_if_ne C.ex C.co hd ht (fun z => h1 out (by rw [if_neg z] at ho; exact ho) p l e s m args below meth c H locs ls C hP hS hl) (fun z => h2 out (by rw [if_pos z] at ho; exact ho) p l e s m args below meth c H locs ls C hP hS hl)
theorem j_icmp_ne {x y : Int32} {off : Int} {t : Nat} (hd : decode cc pc = .ok (.if_icmp .ne off, 3)) (ht : (pc : Int) + off = (t : Int)) (hq : pc + 3 = q) (h1 : JO K own cc nL ret R kc ns PZ t L S X Y o1) (h2 : JO K own cc nL ret R kc ns PZ q L S X Y o2) : JO K own cc nL ret R kc ns PZ pc L (.int y :: .int x :: S) X Y (if x = y then o2 else o1) := by
  intro out ho p l e s m args below meth c H locs ls C hP hS hl
  subst hq
  exact lv_icmp_ne C.ex C.co hd ht (fun z => h1 out (by rw [if_neg z] at ho; exact ho) p l e s m args below meth c H locs ls C hP hS hl) (fun z => h2 out (by rw [if_pos z] at ho; exact ho) p l e s m args below meth c H locs ls C hP hS hl)
theorem j_if_lt {x : Int32} {off : Int} {t : Nat} (hd : decode cc pc = .ok (.ifCond .lt off, 3)) (ht : (pc : Int) + off = (t : Int)) (hq : pc + 3 = q) (h1 : JO K own cc nL ret R kc ns PZ t L S X Y o1) (h2 : JO K own cc nL ret R kc ns PZ q L S X Y o2) : JO K own cc nL ret R kc ns PZ pc L (.int x :: S) X Y (if x < 0 then o1 else o2) := by
  intro out ho p l e s m args below meth c H locs ls C hP hS hl
  subst hq
  exact lv_if_lt C.ex C.co hd ht (fun z => h1 out (by rw [if_pos z] at ho; exact ho) p l e s m args below meth c H locs ls C hP hS hl) (fun z => h2 out (by rw [if_neg z] at ho; exact ho) p l e s m args below meth c H locs ls C hP hS hl)
theorem j_icmp_lt {x y : Int32} {off : Int} {t : Nat} (hd : decode cc pc = .ok (.if_icmp .lt off, 3)) (ht : (pc : Int) + off = (t : Int)) (hq : pc + 3 = q) (h1 : JO K own cc nL ret R kc ns PZ t L S X Y o1) (h2 : JO K own cc nL ret R kc ns PZ q L S X Y o2) : JO K own cc nL ret R kc ns PZ pc L (.int y :: .int x :: S) X Y (if x < y then o1 else o2) := by
  intro out ho p l e s m args below meth c H locs ls C hP hS hl
  subst hq
  exact lv_icmp_lt C.ex C.co hd ht (fun z => h1 out (by rw [if_pos z] at ho; exact ho) p l e s m args below meth c H locs ls C hP hS hl) (fun z => h2 out (by rw [if_neg z] at ho; exact ho) p l e s m args below meth c H locs ls C hP hS hl)
theorem j_if_ge {x : Int32} {off : Int} {t : Nat} (hd : decode cc pc = .ok (.ifCond .ge off, 3)) (ht : (pc : Int) + off = (t : Int)) (hq : pc + 3 = q) (h1 : JO K own cc nL ret R kc ns PZ t L S X Y o1) (h2 : JO K own cc nL ret R kc ns PZ q L S X Y o2) : JO K own cc nL ret R kc ns PZ pc L (.int x :: S) X Y (if 0 ≤ x then o1 else o2) := by
  intro out ho p l e s m args below meth c H locs ls C hP hS hl
  subst hq
  exact lv_if_ge C.ex C.co hd ht (fun z => h1 out (by rw [if_pos z] at ho; exact ho) p l e s m args below meth c H locs ls C hP hS hl) (fun z => h2 out (by rw [if_neg z] at ho; exact ho) p l e s m args below meth c H locs ls C hP hS hl)
theorem j_icmp_ge {x y : Int32} {off : Int} {t : Nat} (hd : decode cc pc = .ok (.if_icmp .ge off, 3)) (ht : (pc : Int) + off = (t : Int)) (hq : pc + 3 = q) (h1 : JO K own cc nL ret R kc ns PZ t L S X Y o1) (h2 : JO K own cc nL ret R kc ns PZ q L S X Y o2) : JO K own cc nL ret R kc ns PZ pc L (.int y :: .int x :: S) X Y (if y ≤ x then o1 else o2) := by
  intro out ho p l e s m args below meth c H locs ls C hP hS hl
  subst hq
  exact lv_icmp_ge C.ex C.co hd ht (fun z => h1 out (by rw [if_pos z] at ho; exact ho) p l e s m args below meth c H locs ls C hP hS hl) (fun z => h2 out (by rw [if_neg z] at ho; exact ho) p l e s m args below meth c H locs ls C hP hS hl)
theorem j_if_gt {x : Int32} {off : Int} {t : Nat} (hd : decode cc pc = .ok (.ifCond .gt off, 3)) (ht : (pc : Int) + off = (t : Int)) (hq : pc + 3 = q) (h1 : JO K own cc nL ret R kc ns PZ t L S X Y o1) (h2 : JO K own cc nL ret R kc ns PZ q L S X Y o2) : JO K own cc nL ret R kc ns PZ pc L (.int x :: S) X Y (if 0 < x then o1 else o2) := by
  intro out ho p l e s m args below meth c H locs ls C hP hS hl
  subst hq
  exact lv_if_gt C.ex C.co hd ht (fun z => h1 out (by rw [if_pos z] at ho; exact ho) p l e s m args below meth c H locs ls C hP hS hl) (fun z => h2 out (by rw [if_neg z] at ho; exact ho) p l e s m args below meth c H locs ls C hP hS hl)
theorem j_icmp_gt {x y : Int32} {off : Int} {t : Nat} (hd : decode cc pc = .ok (.if_icmp .gt off, 3)) (ht : (pc : Int) + off = (t : Int)) (hq : pc + 3 = q) (h1 : JO K own cc nL ret R kc ns PZ t L S X Y o1) (h2 : JO K own cc nL ret R kc ns PZ q L S X Y o2) : JO K own cc nL ret R kc ns PZ pc L (.int y :: .int x :: S) X Y (if y < x then o1 else o2) := by
  intro out ho p l e s m args below meth c H locs ls C hP hS hl
  subst hq
  exact lv_icmp_gt C.ex C.co hd ht (fun z => h1 out (by rw [if_pos z] at ho; exact ho) p l e s m args below meth c H locs ls C hP hS hl) (fun z => h2 out (by rw [if_neg z] at ho; exact ho) p l e s m args below meth c H locs ls C hP hS hl)
theorem j_if_le {x : Int32} {off : Int} {t : Nat} (hd : decode cc pc = .ok (.ifCond .le off, 3)) (ht : (pc : Int) + off = (t : Int)) (hq : pc + 3 = q) (h1 : JO K own cc nL ret R kc ns PZ t L S X Y o1) (h2 : JO K own cc nL ret R kc ns PZ q L S X Y o2) : JO K own cc nL ret R kc ns PZ pc L (.int x :: S) X Y (if x ≤ 0 then o1 else o2) := by
  intro out ho p l e s m args below meth c H locs ls C hP hS hl
  subst hq
  exact lv_if_le C.ex C.co hd ht (fun z => h1 out (by rw [if_pos z] at ho; exact ho) p l e s m args below meth c H locs ls C hP hS hl) (fun z => h2 out (by rw [if_neg z] at ho; exact ho) p l e s m args below meth c H locs ls C hP hS hl)
theorem j_icmp_le {x y : Int32} {off : Int} {t : Nat} (hd : decode cc pc = .ok (.if_icmp .le off, 3)) (ht : (pc : Int) + off = (t : Int)) (hq : pc + 3 = q) (h1 : JO K own cc nL ret R kc ns PZ t L S X Y o1) (h2 : JO K own cc nL ret R kc ns PZ q L S X Y o2) : JO K own cc nL ret R kc ns PZ pc L (.int y :: .int x :: S) X Y (if x ≤ y then o1 else o2) := by
  intro out ho p l e s m args below meth c H locs ls C hP hS hl
  subst hq
  exact lv_icmp_le C.ex C.co hd ht (fun z => h1 out (by rw [if_pos z] at ho; exact ho) p l e s m args below meth c H locs ls C hP hS hl) (fun z => h2 out (by rw [if_neg z] at ho; exact ho) p l e s m args below meth c H locs ls C hP hS hl)
end JR
