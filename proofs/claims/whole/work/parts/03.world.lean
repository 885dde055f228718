/-! the fixed world: cells by number, their shapes, where they lie -/
def kd (a : Nat) : Nat × Nat :=
  if a = 0 then (0, 5) else if a = 1 then (0, 4) else if a = 2 then (1, 36) else if a = 3 then (0, 2) else if a = 4 then (1, 6) else if a = 5 then (1, 5)
  else if a = 6 then (0, 0) else if a = 7 then (3, 14) else if a = 8 then (0, 1) else if a = 9 then (1, 6) else if a = 10 then (1, 6) else if a = 11 then (2, 6)
  else if a = 12 then (3, 2) else if a = 13 then (2, 2) else if a = 14 then (1, 64) else if a = 15 then (1, 8)
  else if a < 70 then (if (a - 16) % 3 = 0 then (0, 3) else (1, 6))
  else if a = 70 then (0, 6) else if a = 71 then (1, 36) else if a = 72 then (1, 6) else if a = 73 then (1, 5) else if a = 74 then (1, 18) else if a = 75 then (1, 5) else if a = 76 then (1, 15) else if a = 77 then (1, 15) else if a = 78 then (1, 210) else if a = 79 then (1, 30) else if a = 80 then (2, 2) else if a = 81 then (1, 6) else if a = 82 then (1, 6) else if a = 83 then (1, 6) else if a = 84 then (1, 8) else (1, 64)
def rA (a i : Nat) : Nat := if a = 7 then 28 + 3 * i else 22 + 3 * i
def fB (x : Nat → Int32) (y : Int64) (a : Nat) : List Value :=
  if a = 0 then [.ref 1, .ref 3, .ref 16, .ref 19, .ref 6, .ref 8, .ref 12, .ref 13, .ref 14, .ref 15, .long y]
  else if a = 1 then [.ref 2, .int (x 1)]
  else if a = 3 then [.ref 4, .ref 5, .int (x 2), .int (x 3)]
  else if a = 6 then [.ref 7, .int (x 1), .int (x 2)]
  else if a = 8 then [.ref 9, .ref 10, .ref 11, .int (x 3)]
  else if a = 70 then [.int (x 0), .ref 71, .int (x 2), .int (x 3), .int (x 4), .ref 72, .int (x 6), .ref 73, .int (x 8), .ref 74, .int (x 10), .ref 75, .ref 76, .ref 77, .ref 78, .int (x 15), .ref 79, .ref 80, .int (x 18), .ref 81, .ref 82, .ref 83, .long y, .int (x 23), .int (x 24), .int (x 25), .int (x 26), .int (x 27), .int (x 28), .ref 84, .ref 85]
  else [.ref 3, .ref (a + 1), .ref (a + 2), .int (x 3), .int (x 4), .int (x 5)]
/-- where all lies: field places, addresses, what may change, the three array classes, the static arrays and the script -/
abbrev KK : Type := va_G × ((Nat → Nat) × ((Nat → Prop) × ((ClassId × (ClassId × ClassId)) × (Nat → Nat))))
def kD (K : KK) : va_G := K.1
def kad (K : KK) : Nat → Nat := K.2.1
def kA (K : KK) : Nat → Prop := K.2.2.1
def kI (K : KK) : ClassId := K.2.2.2.1.1
def kZ (K : KK) : ClassId := K.2.2.2.1.2.1
def kP (K : KK) : ClassId := K.2.2.2.1.2.2
def kts (K : KK) : Nat → Nat := K.2.2.2.2
def kT (K : KK) : List (ClassId × FieldType) := [(kI K, .int), (kZ K, .boolean), (kP K, .object "BrinePans$Pans")]
def trV (K : KK) (v : Value) : Value := match v with
  | .ref a => .ref (kad K a)
  | .float x => .ref (kts K x.toNat)
  | v => v
theorem trV_cat (K : KK) (v : Value) : (trV K v).category = v.category := by cases v <;> rfl
def cB (K : KK) (x : Nat → Int32) (y : Int64) (a : Nat) : va_E := match (kd a).1 with
  | 0 => .inr ((kd a).2, (fB x y a).map (trV K))
  | 1 => .inl (kI K, (kd a).2, .inl x)
  | 2 => .inl (kZ K, (kd a).2, .inl x)
  | _ => .inl (kP K, (kd a).2, .inr (.inr (.inr (.inr (fun i => some (kad K (rA a i)))))))
theorem cB_o {K : KK} {x : Nat → Int32} {y : Int64} {a ci : Nat} (h : kd a = (0, ci)) : cB K x y a = .inr (ci, (fB x y a).map (trV K)) := by simp only [cB, h]
theorem cB_i {K : KK} {x : Nat → Int32} {y : Int64} {a n : Nat} (h : kd a = (1, n)) : cB K x y a = .inl (kI K, n, .inl x) := by simp only [cB, h]
theorem cB_z {K : KK} {x : Nat → Int32} {y : Int64} {a n : Nat} (h : kd a = (2, n)) : cB K x y a = .inl (kZ K, n, .inl x) := by simp only [cB, h]
theorem cB_r {K : KK} {x : Nat → Int32} {y : Int64} {a n : Nat} (h : kd a = (3, n)) : cB K x y a = .inl (kP K, n, .inr (.inr (.inr (.inr (fun i => some (kad K (rA a i))))))) := by simp only [cB, h]
def wsOf (K : KK) (X : HI) (Y : HL) : va_W := (List.range 86).map (fun a => (kad K a, cB K (X a) (Y a) a))
theorem ws_at {K : KK} {X : HI} {Y : HL} {a : Nat} (h : a < 86) : (wsOf K X Y)[a]? = some (kad K a, cB K (X a) (Y a) a) := by simp [wsOf, h]
theorem ws_of {K : KK} {X : HI} {Y : HL} {a : Nat} {q : Nat × va_E} (h : (wsOf K X Y)[a]? = some q) : a < 86 ∧ q = (kad K a, cB K (X a) (Y a) a) := by
  have hl : a < 86 := by
    have := (List.getElem?_eq_some_iff.mp h).1
    simpa [wsOf] using this
  rw [ws_at hl] at h
  exact ⟨hl, (Option.some.inj h).symm⟩
theorem ws_set {K : KK} {X X' : HI} {Y Y' : HL} {a : Nat} (h : a < 86) (hX : ∀ b, b ≠ a → X' b = X b) (hY : ∀ b, b ≠ a → Y' b = Y b) : (wsOf K X Y).set a (kad K a, cB K (X' a) (Y' a) a) = wsOf K X' Y' := by
  apply List.ext_getElem?
  intro i
  by_cases hi : i = a
  · subst hi
    rw [List.getElem?_set_self (by simp [wsOf, h]), ws_at h]
  · rw [List.getElem?_set_ne (Ne.symm hi)]
    by_cases h8 : i < 86
    · rw [ws_at h8, ws_at h8, hX i hi, hY i hi]
    · rw [List.getElem?_eq_none (by simp [wsOf]; omega), List.getElem?_eq_none (by simp [wsOf]; omega)]
theorem up_self (X : HI) (a k : Nat) (v : Int32) : up X a k v a = upd (X a) k v := if_pos rfl
theorem up_ne (X : HI) {a b : Nat} (k : Nat) (v : Int32) (h : b ≠ a) : up X a k v b = X b := if_neg h
theorem upY_self (Y : HL) (a : Nat) (v : Int64) : upY Y a v a = v := if_pos rfl
theorem upY_ne (Y : HL) {a b : Nat} (v : Int64) (h : b ≠ a) : upY Y a v b = Y b := if_neg h
theorem ws_up {K : KK} {X : HI} {Y : HL} {a k : Nat} {v : Int32} (h : a < 86) : (wsOf K X Y).set a (kad K a, cB K (upd (X a) k v) (Y a) a) = wsOf K (up X a k v) Y := by
  have e := ws_set (K := K) (X := X) (X' := up X a k v) (Y := Y) (Y' := Y) h (fun b hb => up_ne X k v hb) (fun b _ => rfl)
  rw [up_self] at e
  exact e
theorem ws_upY {K : KK} {X : HI} {Y : HL} {a : Nat} {v : Int64} (h : a < 86) : (wsOf K X Y).set a (kad K a, cB K (X a) v a) = wsOf K X (upY Y a v) := by
  have e := ws_set (K := K) (X := X) (X' := X) (Y := Y) (Y' := upY Y a v) h (fun b _ => rfl) (fun b hb => upY_ne Y v hb)
  rw [upY_self] at e
  exact e
def kOK (K : KK) : Prop := (∀ a b, a < 86 → b < 86 → kad K a = kad K b → a = b) ∧ ∀ a, a < 86 → kA K (kad K a)
theorem ws_D {K : KK} (h : kOK K) (X : HI) (Y : HL) : va_D (kA K) (wsOf K X Y) := by
  refine ⟨fun i j p q hi hj hpq => ?_, fun k q hk => ?_⟩
  · obtain ⟨a1, rfl⟩ := ws_of hi
    obtain ⟨b1, rfl⟩ := ws_of hj
    exact h.1 i j a1 b1 hpq
  · obtain ⟨a1, rfl⟩ := ws_of hk
    exact h.2 k a1
-- the words
def gw : List Cond := lw_tbl.filter goodWord
def isNest : Cond → Bool
  | .fieldLinkNest .. => true
  | .methodLinkNest .. => true
  | _ => false
def nw : List Cond := tables_1.filter isNest
theorem gw_all : ∀ w ∈ gw, (w.onTables && w.keeps) = true ∨ ∃ ty, w = .arrayClass ty := fun w h => good_of_word (List.mem_filter.mp h).2
theorem gw_t {w : Cond} (i : Nat) (h : tables_1[i]? = some w) (hg : goodWord w = true) : w ∈ gw := List.mem_filter.mpr ⟨List.mem_append_right _ (List.mem_of_getElem? h), hg⟩
theorem gw_s {w : Cond} (i : Nat) (h : (k2_sels lw_privs)[i]? = some w) (hg : goodWord w = true) : w ∈ gw := List.mem_filter.mpr ⟨List.mem_append_left _ (List.mem_of_getElem? h), hg⟩
theorem nw_t {w : Cond} (i : Nat) (h : tables_1[i]? = some w) (hg : isNest w = true) : w ∈ nw := List.mem_filter.mpr ⟨List.mem_of_getElem? h, hg⟩
def kN (U : State) : Prop := ∀ w ∈ nw, va_Nw w U
theorem kN.warm {s U : State} (hW : s.WarmedH U.vm) (h : kN s) : kN U := by
  intro w hw
  have h1 := h w hw
  have h2 := (List.mem_filter.mp hw).2
  cases w <;> first | exact va_Nw.warmF hW h1 | exact va_Nw.warmM hW h1 | (exfalso; simp [isNest] at h2)
theorem kN.same {u U : State} (hv : u.vm = U.vm) (h : kN u) : kN U := by
  intro w hw
  have h1 := h w hw
  have h2 := (List.mem_filter.mp hw).2
  cases w <;> first | exact va_Nw.same rfl hv h1 | (exfalso; simp [isNest] at h2)
def fac (j : Nat) : Int32 := match j with
  | 0 => 1
  | 1 => 1
  | 2 => 2
  | 3 => 6
  | 4 => 24
  | 5 => 120
  | _ => 720
def tho (j : Nat) : Int64 := match j with
  | 0 => 1
  | 1 => 1000
  | 2 => 1000000
  | _ => 1000000000
def kSt (K : KK) (U : State) : Prop := va_Z "BrinePans" "FACTORIALS" "[I" (.ref (kts K 1)) (kA K) U U.heap ∧ va_T .int (kts K 1) 7 (fun j => .int (fac j)) (kA K) U U.heap ∧ va_Z "BrinePans" "THOUSANDS" "[J" (.ref (kts K 2)) (kA K) U U.heap ∧ va_T .long (kts K 2) 4 (fun j => .long (tho j)) (kA K) U U.heap
theorem kSt.moved {K : KK} {s U : State} (hvm : s.vm.Alike U.vm) (hk : ∀ q : Nat, q < s.heap.size → ¬ kA K q → U.heap[q]? = s.heap[q]?) (h : kSt K s) : kSt K U :=
  ⟨(h.1.moved hvm).kept hk, (h.2.1.moved hvm).kept hk, (h.2.2.1.moved hvm).kept hk, (h.2.2.2.moved hvm).kept hk⟩
/-- the context of a running method -/
def Cx (K : KK) (own : String) (cc : ByteArray) (nL : Nat) (ret : Option FieldType) (p : Program) (s : State) (m : MethodId) (args : Array Value) (meth : Method) (c : Code) : Prop :=
  p.tables.exec = Jvm.exec ∧ c.code = cc ∧ meth.sig.returnType = ret ∧ c.maxLocals = nL ∧ s.vm.findClass own = some m.cls ∧ (∀ w ∈ gw, w.before args s = true) ∧ meth.locks = false ∧ va_K (kD K) classes (kT K) s ∧ kOK K ∧ kN s ∧ kSt K s
section CXS
variable {K : KK} {own : String} {cc : ByteArray} {nL : Nat} {ret : Option FieldType} {p : Program} {s : State} {m : MethodId} {args : Array Value} {meth : Method} {c : Code}
theorem Cx.ex (h : Cx K own cc nL ret p s m args meth c) : p.tables.exec = Jvm.exec := h.1
theorem Cx.co (h : Cx K own cc nL ret p s m args meth c) : c.code = cc := h.2.1
theorem Cx.re (h : Cx K own cc nL ret p s m args meth c) : meth.sig.returnType = ret := h.2.2.1
theorem Cx.ml (h : Cx K own cc nL ret p s m args meth c) : c.maxLocals = nL := h.2.2.2.1
theorem Cx.ow (h : Cx K own cc nL ret p s m args meth c) : s.vm.findClass own = some m.cls := h.2.2.2.2.1
theorem Cx.ts (h : Cx K own cc nL ret p s m args meth c) : ∀ w ∈ gw, w.before args s = true := h.2.2.2.2.2.1
theorem Cx.lk (h : Cx K own cc nL ret p s m args meth c) : meth.locks = false := h.2.2.2.2.2.2.1
theorem Cx.ka (h : Cx K own cc nL ret p s m args meth c) : va_K (kD K) classes (kT K) s := h.2.2.2.2.2.2.2.1
theorem Cx.ok (h : Cx K own cc nL ret p s m args meth c) : kOK K := h.2.2.2.2.2.2.2.2.1
theorem Cx.ne (h : Cx K own cc nL ret p s m args meth c) : kN s := h.2.2.2.2.2.2.2.2.2.1
theorem Cx.st (h : Cx K own cc nL ret p s m args meth c) : kSt K s := h.2.2.2.2.2.2.2.2.2.2
end CXS
-- locals
def Lp (K : KK) : Nat → List (Option Value) → List (Nat × Value)
  | _, [] => []
  | i, none :: t => Lp K (i + 1) t
  | i, some v :: t => (i, trV K v) :: Lp K (i + 1) t
theorem Lp_iff {K : KK} : ∀ (L : List (Option Value)) (i : Nat) (q : Nat × Value), q ∈ Lp K i L ↔ ∃ k v, L[k]? = some (some v) ∧ q = (i + k, trV K v)
  | [], i, q => by simp [Lp]
  | none :: t, i, q => by
    rw [Lp, Lp_iff t (i + 1) q]
    constructor
    · rintro ⟨k, v, h1, h2⟩
      exact ⟨k + 1, v, by simpa using h1, by rw [h2]; congr 1; omega⟩
    · rintro ⟨k, v, h1, h2⟩
      cases k with
      | zero => simp at h1
      | succ k => exact ⟨k, v, by simpa using h1, by rw [h2]; congr 1; omega⟩
  | some w :: t, i, q => by
    rw [Lp, List.mem_cons, Lp_iff t (i + 1) q]
    constructor
    · rintro (h | ⟨k, v, h1, h2⟩)
      · exact ⟨0, w, rfl, by rw [h]; rfl⟩
      · exact ⟨k + 1, v, by simpa using h1, by rw [h2]; congr 1; omega⟩
    · rintro ⟨k, v, h1, h2⟩
      cases k with
      | zero => left; simp at h1; rw [h2, h1]; rfl
      | succ k => right; exact ⟨k, v, by simpa using h1, by rw [h2]; congr 1; omega⟩
def lvs (K : KK) (ls : Array Slot) (nL : Nat) (L : List (Option Value)) : Prop := lv_has ls nL (Lp K 0 L)
theorem lvs.at {K : KK} {ls : Array Slot} {nL : Nat} {L : List (Option Value)} (h : lvs K ls nL L) {i : Nat} {v : Value} (hv : L[i]? = some (some v)) : ls[i]? = some (.val (trV K v)) :=
  h.2.2 (i, trV K v) ((Lp_iff L 0 _).mpr ⟨i, v, hv, by rw [Nat.zero_add]⟩)
theorem lv_mono {ls : Array Slot} {nL : Nat} {l l' : List (Nat × Value)} (h : lv_has ls nL l) (hs : ∀ q ∈ l', q ∈ l) : lv_has ls nL l' := ⟨h.1, h.2.1, fun q hq => h.2.2 q (hs q hq)⟩
def subL : List (Option Value) → List (Option Value) → Prop
  | [], _ => True
  | none :: t', [] => subL t' []
  | none :: t', _ :: t => subL t' t
  | some v :: t', w :: t => w = some v ∧ subL t' t
  | some _ :: _, [] => False
theorem subL_at : ∀ (L' L : List (Option Value)), subL L' L → ∀ (k : Nat) (v : Value), L'[k]? = some (some v) → L[k]? = some (some v)
  | [], _, _, k, v, h => by simp at h
  | none :: t', _ :: t, hs, k, v, h => by
    cases k with
    | zero => simp at h
    | succ k => simpa using subL_at t' t hs k v (by simpa using h)
  | some w :: t', u :: t, hs, k, v, h => by
    cases k with
    | zero => simp at h; subst h; simpa using hs.1
    | succ k => simpa using subL_at t' t hs.2 k v (by simpa using h)
  | none :: t', [], hs, k, v, h => by
    cases k with
    | zero => simp at h
    | succ k => have := subL_at t' [] hs k v (by simpa using h); simp at this
  | some _ :: _, [], hs, _, _, _ => absurd hs (by simp [subL])
theorem lvs.sub {K : KK} {ls : Array Slot} {nL : Nat} {L L' : List (Option Value)} (h : lvs K ls nL L) (hs : subL L' L) : lvs K ls nL L' :=
  lv_mono h (fun q hq => by
    obtain ⟨k, v, h1, h2⟩ := (Lp_iff L' 0 q).mp hq
    exact (Lp_iff L 0 q).mpr ⟨k, v, subL_at L' L hs k v h1, h2⟩)
def okS (L : List (Option Value)) (i : Nat) : Bool := match i with
  | 0 => true
  | j + 1 => match L[j]? with
    | some (some w) => w.category == 1
    | _ => true
theorem okS_of {L : List (Option Value)} {i k : Nat} {v : Value} (h : okS L i = true) (hk : L[k]? = some (some v)) (hi : k + 1 = i) : v.category = 1 := by
  subst hi
  simp only [okS, hk] at h
  simpa using h
theorem st1 {K : KK} {L : List (Option Value)} {i : Nat} {v : Value} (hok : okS L i = true) : ∀ q ∈ Lp K 0 (L.set i (some v)), q ∈ (i, trV K v) :: (Lp K 0 L).filter (fun q => !(q.1 == i) && !(q.1 + 1 == i && q.2.category == 2)) := by
  intro q hq
  obtain ⟨k, w, h1, h2⟩ := (Lp_iff _ 0 q).mp hq
  rw [Nat.zero_add] at h2
  by_cases hk : k = i
  · subst hk
    rw [List.getElem?_set_self (by have := (List.getElem?_eq_some_iff.mp h1).1; simpa using this)] at h1
    cases h1
    rw [h2]; exact List.mem_cons_self
  · rw [List.getElem?_set_ne (Ne.symm hk)] at h1
    refine List.mem_cons_of_mem _ (List.mem_filter.mpr ⟨(Lp_iff L 0 q).mpr ⟨k, w, h1, by rw [Nat.zero_add]; exact h2⟩, ?_⟩)
    rw [h2]
    simp only [Bool.and_eq_true, Bool.not_eq_true', beq_eq_false_iff_ne, ne_eq, Bool.and_eq_false_iff]
    refine ⟨hk, ?_⟩
    by_cases h5 : k + 1 = i
    · right; rw [trV_cat, okS_of hok h1 h5]; decide
    · left; exact h5
theorem st2 {K : KK} {L : List (Option Value)} {i : Nat} {v : Value} (hok : okS L i = true) : ∀ q ∈ Lp K 0 ((L.set i (some v)).set (i + 1) none), q ∈ (i, trV K v) :: (Lp K 0 L).filter (fun q => !(q.1 == i) && (!(q.1 == i + 1) && !(q.1 + 1 == i && q.2.category == 2))) := by
  intro q hq
  obtain ⟨k, w, h1, h2⟩ := (Lp_iff _ 0 q).mp hq
  rw [Nat.zero_add] at h2
  by_cases hk1 : k = i + 1
  · subst hk1
    rw [List.getElem?_set_self (by have := (List.getElem?_eq_some_iff.mp h1).1; simpa using this)] at h1
    cases h1
  · rw [List.getElem?_set_ne (Ne.symm hk1)] at h1
    by_cases hk : k = i
    · subst hk
      rw [List.getElem?_set_self (by have := (List.getElem?_eq_some_iff.mp h1).1; simpa using this)] at h1
      cases h1
      rw [h2]; exact List.mem_cons_self
    · rw [List.getElem?_set_ne (Ne.symm hk)] at h1
      refine List.mem_cons_of_mem _ (List.mem_filter.mpr ⟨(Lp_iff L 0 q).mpr ⟨k, w, h1, by rw [Nat.zero_add]; exact h2⟩, ?_⟩)
      rw [h2]
      simp only [Bool.and_eq_true, Bool.not_eq_true', beq_eq_false_iff_ne, ne_eq, Bool.and_eq_false_iff]
      refine ⟨hk, hk1, ?_⟩
      by_cases h5 : k + 1 = i
      · right; rw [trV_cat, okS_of hok h1 h5]; decide
      · left; exact h5
