/-! fields, arrays, calls, ends -/
/-- a field of class ci, place k, as the entry 'index' of own's pool links it -/
def FK (own : String) (index ci k : Nat) : Prop := ∃ (C : String) (T : u_T) (N : Nat) (ty : Nat → FieldType), classes[ci]? = some (C, T, N) ∧ (∀ w ∈ u_ws C T N, w ∈ gw) ∧ (∀ k, k < N → parseFieldDescriptor (T k).2.2.1 = some (ty k)) ∧ (∀ a, a < N → ∀ b, b < N → a ≠ b → (T a).2.1 ≠ (T b).2.1) ∧ k < N ∧ (T k).1 = C ∧
  (Cond.fieldLink own index C (T k).2.1 (T k).2.2.1 ∈ gw ∨ ∃ host, Cond.fieldLinkNest own index C (T k).2.1 (T k).2.2.1 host ∈ nw)
/-- the same, of a field of whole numbers that isn't final -/
def FP (own : String) (index ci k : Nat) (ty : FieldType) : Prop := FK own index ci k ∧ ∀ q, classes[ci]? = some q → (q.2.1 k).2.2.2 = false ∧ parseFieldDescriptor (q.2.1 k).2.2.1 = some ty
def zb (v : Int32) : Bool := decide (v = 0) || decide (v = 1)
def FV (X : HI) (Y : HL) (a ci k : Nat) (v : Value) : Prop := a < 86 ∧ kd a = (0, ci) ∧ (fB (X a) (Y a) a)[k]? = some v
def FW (a ci k : Nat) : Prop := a < 86 ∧ kd a = (0, ci) ∧ ∀ (x : Nat → Int32) (y : Int64) (v : Int32), fB (upd x k v) y a = (fB x y a).set k (.int v) ∧ k < (fB x y a).length
def FWL (a ci k : Nat) : Prop := a < 86 ∧ kd a = (0, ci) ∧ ∀ (x : Nat → Int32) (y v : Int64), fB x v a = (fB x y a).set k (.long v) ∧ k < (fB x y a).length
def AI (a n : Nat) : Prop := a < 86 ∧ kd a = (1, n)
def AZ (a n : Nat) : Prop := a < 86 ∧ kd a = (2, n)
def AR (a n : Nat) : Prop := a < 86 ∧ kd a = (3, n)
theorem map_set_tr (K : KK) (fs : List Value) (k : Nat) (v : Value) : (fs.set k v).map (trV K) = (fs.map (trV K)).set k (trV K v) := List.map_set
section JR2
variable {K : KK} {own : String} {cc : ByteArray} {nL : Nat} {ret : Option FieldType} {R : Room} {kc ns : Nat} {PZ : PZT} {pc q : Nat} {L L' : List (Option Value)} {S : List Value} {X : HI} {Y : HL} {o o1 o2 : Option Out}
theorem j_get {index ci k a : Nat} {v : Value} (hd : decode cc pc = .ok (.getfield index, 3)) (hf : FK own index ci k) (hv : FV X Y a ci k v) (hq : pc + 3 = q) (h : JO K own cc nL ret R kc ns PZ q L (v :: S) X Y o) : JO K own cc nL ret R kc ns PZ pc L (.ref a :: S) X Y o := by
  intro out ho p l e s m args below meth c H locs ls C hP hS hl
  obtain ⟨Cn, T, N, ty, f1, f2, f3, f4, f5, f6, f7⟩ := hf
  obtain ⟨v1, v2, v3⟩ := hv
  subst hq
  have hat : (wsOf K X Y)[a]? = some (kad K a, .inr (ci, (fB (X a) (Y a) a).map (trV K))) := by rw [ws_at v1, cB_o v2]
  have hvv : ((fB (X a) (Y a) a).map (trV K))[k]? = some (trV K v) := by rw [List.getElem?_map, v3]; rfl
  have kk := h out ho p l e s m args below meth c H locs ls C hP hS hl
  rcases f7 with f7 | ⟨host, f7⟩
  · exact va_get C.ex C.co C.ts f2 C.ow C.ka hP a hat f1 k f5 (C.ts _ f7) (fun x hx => by rw [f6] at hx; exact hx) hvv hd kk
  · exact va_getN C.ex C.co C.ts f2 C.ow C.ka hP a hat f1 k f5 (va_Nw.use rfl (C.ne _ f7)) (fun x hx => by rw [f6] at hx; exact hx) hvv hd kk
theorem j_putI {index ci k a : Nat} {v : Int32} {kk : HI → Option Out} (hd : decode cc pc = .ok (.putfield index, 3)) (hf : FP own index ci k .int) (hv : FW a ci k) (hq : pc + 3 = q) (h : ∀ X1, JO K own cc nL ret R kc ns PZ q L S X1 Y (kk X1)) : JO K own cc nL ret R kc ns PZ pc L (.int v :: .ref a :: S) X Y (lh (up X a k v) kk) := by
  intro out ho p l e s m args below meth c H locs ls C hP hS hl
  obtain ⟨⟨Cn, T, N, ty, f1, f2, f3, f4, f5, f6, f7⟩, g⟩ := hf
  obtain ⟨g1, g2⟩ := g _ f1
  obtain ⟨v1, v2, v3⟩ := hv
  obtain ⟨v4, v5⟩ := v3 (X a) (Y a) v
  subst hq
  have hat : (wsOf K X Y)[a]? = some (kad K a, .inr (ci, (fB (X a) (Y a) a).map (trV K))) := by rw [ws_at v1, cB_o v2]
  have he : (wsOf K X Y).set a (kad K a, .inr (ci, ((fB (X a) (Y a) a).map (trV K)).set k (trV K (.int v)))) = wsOf K (up X a k v) Y := by
    rw [← ws_up v1, cB_o v2, v4, map_set_tr]
  have k1 := fun (H1 : Heap) (locs1 : List Loc) (hP1 : va_P (kD K) classes (wsOf K (up X a k v) Y) H1) (hS1 : va_S (kA K) s.heap H1 locs1) => h (up X a k v) out ho p l e s m args below meth c H1 locs1 ls C hP1 hS1 hl
  rcases f7 with f7 | ⟨host, f7⟩
  · exact va_put (ty := .int) C.ex C.co C.ts f2 ty f3 f4 C.ow C.ka hP (ws_D C.ok X Y) hS a hat f1 k f5 (C.ts _ f7) (fun x hx => by rw [f6] at hx; exact hx) g1 g2 rfl rfl (by rw [List.length_map]; exact v5) hd (fun H1 locs1 hP1 _ hS1 => k1 H1 locs1 (by rw [he] at hP1; exact hP1) hS1)
  · exact va_putN (ty := .int) C.ex C.co C.ts f2 ty f3 f4 C.ow C.ka hP (ws_D C.ok X Y) hS a hat f1 k f5 (va_Nw.use rfl (C.ne _ f7)) (fun x hx => by rw [f6] at hx; exact hx) g1 g2 rfl rfl (by rw [List.length_map]; exact v5) hd (fun H1 locs1 hP1 _ hS1 => k1 H1 locs1 (by rw [he] at hP1; exact hP1) hS1)
theorem j_putL {index ci k a : Nat} {v : Int64} {kk : HL → Option Out} (hd : decode cc pc = .ok (.putfield index, 3)) (hf : FP own index ci k .long) (hv : FWL a ci k) (hq : pc + 3 = q) (h : ∀ Y1, JO K own cc nL ret R kc ns PZ q L S X Y1 (kk Y1)) : JO K own cc nL ret R kc ns PZ pc L (.long v :: .ref a :: S) X Y (lhY (upY Y a v) kk) := by
  intro out ho p l e s m args below meth c H locs ls C hP hS hl
  obtain ⟨⟨Cn, T, N, ty, f1, f2, f3, f4, f5, f6, f7⟩, g⟩ := hf
  obtain ⟨g1, g2⟩ := g _ f1
  obtain ⟨v1, v2, v3⟩ := hv
  obtain ⟨v4, v5⟩ := v3 (X a) (Y a) v
  subst hq
  have hat : (wsOf K X Y)[a]? = some (kad K a, .inr (ci, (fB (X a) (Y a) a).map (trV K))) := by rw [ws_at v1, cB_o v2]
  have he : (wsOf K X Y).set a (kad K a, .inr (ci, ((fB (X a) (Y a) a).map (trV K)).set k (trV K (.long v)))) = wsOf K X (upY Y a v) := by
    rw [← ws_upY v1, cB_o v2, v4, map_set_tr]
  have k1 := fun (H1 : Heap) (locs1 : List Loc) (hP1 : va_P (kD K) classes (wsOf K X (upY Y a v)) H1) (hS1 : va_S (kA K) s.heap H1 locs1) => h (upY Y a v) out ho p l e s m args below meth c H1 locs1 ls C hP1 hS1 hl
  rcases f7 with f7 | ⟨host, f7⟩
  · exact va_put (ty := .long) C.ex C.co C.ts f2 ty f3 f4 C.ow C.ka hP (ws_D C.ok X Y) hS a hat f1 k f5 (C.ts _ f7) (fun x hx => by rw [f6] at hx; exact hx) g1 g2 rfl rfl (by rw [List.length_map]; exact v5) hd (fun H1 locs1 hP1 _ hS1 => k1 H1 locs1 (by rw [he] at hP1; exact hP1) hS1)
  · exact va_putN (ty := .long) C.ex C.co C.ts f2 ty f3 f4 C.ow C.ka hP (ws_D C.ok X Y) hS a hat f1 k f5 (va_Nw.use rfl (C.ne _ f7)) (fun x hx => by rw [f6] at hx; exact hx) g1 g2 rfl rfl (by rw [List.length_map]; exact v5) hd (fun H1 locs1 hP1 _ hS1 => k1 H1 locs1 (by rw [he] at hP1; exact hP1) hS1)
theorem j_iald {a n : Nat} {i : Int32} (hd : decode cc pc = .ok (.iaload, 1)) (ha : AI a n) (hq : pc + 1 = q) (h : JO K own cc nL ret R kc ns PZ q L (.int (X a i.toNatClampNeg) :: S) X Y o) : JO K own cc nL ret R kc ns PZ pc L (.int i :: .ref a :: S) X Y (gd (ixb i n) o) := by
  intro out ho p l e s m args below meth c H locs ls C hP hS hl
  cases hb : ixb i n with
  | false => rw [hb] at ho; cases ho
  | true =>
    rw [hb] at ho
    subst hq
    exact va_iald C.ex C.co C.ka hP a 0 (by rw [ws_at ha.1, cB_i ha.2]) rfl (ixb_in hb) hd (h out ho p l e s m args below meth c H locs ls C hP hS hl)
theorem j_zald {a n : Nat} {i : Int32} (hd : decode cc pc = .ok (.baload, 1)) (ha : AZ a n) (hq : pc + 1 = q) (h : JO K own cc nL ret R kc ns PZ q L (.int (X a i.toNatClampNeg) :: S) X Y o) : JO K own cc nL ret R kc ns PZ pc L (.int i :: .ref a :: S) X Y (gd (ixb i n) o) := by
  intro out ho p l e s m args below meth c H locs ls C hP hS hl
  cases hb : ixb i n with
  | false => rw [hb] at ho; cases ho
  | true =>
    rw [hb] at ho
    subst hq
    exact va_zald C.ex C.co C.ka hP a 1 (by rw [ws_at ha.1, cB_z ha.2]) rfl (ixb_in hb) hd (h out ho p l e s m args below meth c H locs ls C hP hS hl)
theorem j_aald {a n : Nat} {i : Int32} (hd : decode cc pc = .ok (.aaload, 1)) (ha : AR a n) (hq : pc + 1 = q) (h : ixb i n = true → JO K own cc nL ret R kc ns PZ q L (.ref (rA a i.toNatClampNeg) :: S) X Y o) : JO K own cc nL ret R kc ns PZ pc L (.int i :: .ref a :: S) X Y (gd (ixb i n) o) := by
  intro out ho p l e s m args below meth c H locs ls C hP hS hl
  cases hb : ixb i n with
  | false => rw [hb] at ho; cases ho
  | true =>
    rw [hb] at ho
    subst hq
    exact va_aldq (f := fun i => some (kad K (rA a i))) C.ex C.co C.ka hP a 2 (by rw [ws_at ha.1, cB_r ha.2]) rfl (ixb_in hb) hd (h hb out ho p l e s m args below meth c H locs ls C hP hS hl)
theorem j_iast {a n : Nat} {i v : Int32} {kk : HI → Option Out} (hd : decode cc pc = .ok (.iastore, 1)) (ha : AI a n) (hq : pc + 1 = q) (h : ∀ X1, JO K own cc nL ret R kc ns PZ q L S X1 Y (kk X1)) : JO K own cc nL ret R kc ns PZ pc L (.int v :: .int i :: .ref a :: S) X Y (wr (ixb i n) (up X a i.toNatClampNeg v) kk) := by
  intro out ho p l e s m args below meth c H locs ls C hP hS hl
  cases hb : ixb i n with
  | false => rw [hb] at ho; cases ho
  | true =>
    rw [hb] at ho
    subst hq
    have he : (wsOf K X Y).set a (kad K a, .inl (kI K, n, .inl (upd (X a) i.toNatClampNeg v))) = wsOf K (up X a i.toNatClampNeg v) Y := by
      rw [← ws_up ha.1, cB_i ha.2]
    exact va_iast C.ex C.co C.ka hP (ws_D C.ok X Y) hS a 0 (by rw [ws_at ha.1, cB_i ha.2]) rfl (ixb_in hb) hd (fun H1 locs1 hP1 _ hS1 => h _ out ho p l e s m args below meth c H1 locs1 ls C (by rw [he] at hP1; exact hP1) hS1 hl)
theorem j_zast {a n : Nat} {i v : Int32} {kk : HI → Option Out} (hd : decode cc pc = .ok (.bastore, 1)) (ha : AZ a n) (hq : pc + 1 = q) (h : ∀ X1, JO K own cc nL ret R kc ns PZ q L S X1 Y (kk X1)) : JO K own cc nL ret R kc ns PZ pc L (.int v :: .int i :: .ref a :: S) X Y (wr (ixb i n) (up X a i.toNatClampNeg (vp_nar .boolean v)) kk) := by
  intro out ho p l e s m args below meth c H locs ls C hP hS hl
  cases hb : ixb i n with
  | false => rw [hb] at ho; cases ho
  | true =>
    rw [hb] at ho
    subst hq
    have he : (wsOf K X Y).set a (kad K a, .inl (kZ K, n, .inl (upd (X a) i.toNatClampNeg (vp_nar .boolean v)))) = wsOf K (up X a i.toNatClampNeg (vp_nar .boolean v)) Y := by
      rw [← ws_up ha.1, cB_z ha.2]
    exact va_zast C.ex C.co C.ka hP (ws_D C.ok X Y) hS a 1 (by rw [ws_at ha.1, cB_z ha.2]) rfl (ixb_in hb) hd (fun H1 locs1 hP1 _ hS1 => h _ out ho p l e s m args below meth c H1 locs1 ls C (by rw [he] at hP1; exact hP1) hS1 hl)
-- the static arrays: the reference of FACTORIALS is told as .float 1, that of THOUSANDS as .float 2
theorem j_getF {index : Nat} (hd : decode cc pc = .ok (.getstatic index, 3)) (hw : Cond.fieldLink own index "BrinePans" "FACTORIALS" "[I" ∈ gw) (hq : pc + 3 = q) (h : JO K own cc nL ret R kc ns PZ q L (.float 1 :: S) X Y o) : JO K own cc nL ret R kc ns PZ pc L S X Y o := by
  intro out ho p l e s m args below meth c H locs ls C hP hS hl
  subst hq
  exact va_gets C.ex C.co C.st.1 hS C.ow (C.ts _ hw) (fun _ h => h) hd (h out ho p l e s m args below meth c H locs ls C hP hS hl)
theorem j_getT {index : Nat} (hd : decode cc pc = .ok (.getstatic index, 3)) (hw : Cond.fieldLink own index "BrinePans" "THOUSANDS" "[J" ∈ gw) (hq : pc + 3 = q) (h : JO K own cc nL ret R kc ns PZ q L (.float 2 :: S) X Y o) : JO K own cc nL ret R kc ns PZ pc L S X Y o := by
  intro out ho p l e s m args below meth c H locs ls C hP hS hl
  subst hq
  exact va_gets C.ex C.co C.st.2.2.1 hS C.ow (C.ts _ hw) (fun _ h => h) hd (h out ho p l e s m args below meth c H locs ls C hP hS hl)
theorem j_faF {i : Int32} (hd : decode cc pc = .ok (.iaload, 1)) (hq : pc + 1 = q) (h : JO K own cc nL ret R kc ns PZ q L (.int (fac i.toNatClampNeg) :: S) X Y o) : JO K own cc nL ret R kc ns PZ pc L (.int i :: .float 1 :: S) X Y (gd (ixb i 7) o) := by
  intro out ho p l e s m args below meth c H locs ls C hP hS hl
  cases hb : ixb i 7 with
  | false => rw [hb] at ho; cases ho
  | true =>
    rw [hb] at ho
    subst hq
    exact va_ti (t := kts K 1) C.ex C.co C.st.2.1 hS (ixb_in hb) rfl hd (h out ho p l e s m args below meth c H locs ls C hP hS hl)
theorem j_faT {i : Int32} (hd : decode cc pc = .ok (.laload, 1)) (hq : pc + 1 = q) (h : JO K own cc nL ret R kc ns PZ q L (.long (tho i.toNatClampNeg) :: S) X Y o) : JO K own cc nL ret R kc ns PZ pc L (.int i :: .float 2 :: S) X Y (gd (ixb i 4) o) := by
  intro out ho p l e s m args below meth c H locs ls C hP hS hl
  cases hb : ixb i 4 with
  | false => rw [hb] at ho; cases ho
  | true =>
    rw [hb] at ho
    subst hq
    exact va_tl (t := kts K 2) C.ex C.co C.st.2.2.2 hS (ixb_in hb) rfl hd (h out ho p l e s m args below meth c H locs ls C hP hS hl)
theorem j_lenT (hd : decode cc pc = .ok (.arraylength, 1)) (hq : pc + 1 = q) (h : JO K own cc nL ret R kc ns PZ q L (.int 4 :: S) X Y o) : JO K own cc nL ret R kc ns PZ pc L (.float 2 :: S) X Y o := by
  intro out ho p l e s m args below meth c H locs ls C hP hS hl
  subst hq
  exact va_tlen (t := kts K 2) C.ex C.co C.st.2.2.2 hS (v := 4) (by decide +kernel) hd (h out ho p l e s m args below meth c H locs ls C hP hS hl)
-- switches
theorem j_tabIn {dflt lo hi : Int} {offs : Array Int} {len t : Nat} {x z : Int32} {off : Int} (hd : decode cc pc = .ok (.tableswitch dflt lo hi offs, len)) (hx : x = z) (h1 : ¬ z.toInt < lo) (h2 : ¬ hi < z.toInt) (ho2 : offs[(z.toInt - lo).toNat]? = some off) (ht : (pc : Int) + off = (t : Int)) (h : JO K own cc nL ret R kc ns PZ t L S X Y o) : JO K own cc nL ret R kc ns PZ pc L (.int x :: S) X Y o := by
  intro out ho p l e s m args below meth c H locs ls C hP hS hl
  subst hx
  exact lv_tableIn C.ex C.co hd h1 h2 ho2 ht (h out ho p l e s m args below meth c H locs ls C hP hS hl)
theorem j_tabOut {dflt lo hi : Int} {offs : Array Int} {len t : Nat} {x : Int32} (hd : decode cc pc = .ok (.tableswitch dflt lo hi offs, len)) (h1 : x.toInt < lo ∨ hi < x.toInt) (ht : (pc : Int) + dflt = (t : Int)) (h : JO K own cc nL ret R kc ns PZ t L S X Y o) : JO K own cc nL ret R kc ns PZ pc L (.int x :: S) X Y o :=
  fun out ho p l e s m args below meth c H locs ls C hP hS hl => lv_tableOut C.ex C.co hd h1 ht (h out ho p l e s m args below meth c H locs ls C hP hS hl)
theorem j_look {dflt : Int} {ps : Array (Int × Int)} {len t : Nat} {x : Int32} {off : Int} (hd : decode cc pc = .ok (.lookupswitch dflt ps, len)) (hp : (ps.toList.zip (ps.toList.drop 1)).all (fun (a, next) => a.1 < next.1) = true) (ho2 : Op.lookupswitch.offset ps.toList dflt x.toInt = off) (ht : (pc : Int) + off = (t : Int)) (h : JO K own cc nL ret R kc ns PZ t L S X Y o) : JO K own cc nL ret R kc ns PZ pc L (.int x :: S) X Y o :=
  fun out ho p l e s m args below meth c H locs ls C hP hS hl => lv_lookup C.ex C.co hd hp ho2 ht (h out ho p l e s m args below meth c H locs ls C hP hS hl)
end JR2
/-- out of a table from 0 on -/
theorem tab_out {x : Int32} (n : Nat) (h : ∀ j, j ≤ n → x.toInt ≠ (j : Int)) : x.toInt < 0 ∨ (n : Int) < x.toInt := by
  by_cases h1 : x.toInt < 0
  · exact Or.inl h1
  · right
    have h2 := h x.toInt.toNat
    omega
theorem ne_toInt {x z : Int32} (h : ¬ x = z) : x.toInt ≠ z.toInt := fun e => h (Int32.toInt_inj.mp e)
theorem look_out {x : Int} (h1 : x ≠ 78) (h2 : x ≠ 82) (h3 : x ≠ 83) {a b c d : Int} : Op.lookupswitch.offset [(78, a), (82, b), (83, c)] d x = d := by
  simp [Op.lookupswitch.offset, Ne.symm h1, Ne.symm h2, Ne.symm h3, h1, h2, h3]
-- ends
section JR3
variable {K : KK} {own : String} {cc : ByteArray} {nL : Nat} {R : Room} {pc : Nat} {L : List (Option Value)} {X : HI} {Y : HL}
theorem j_iret {v : Int32} (hd : decode cc pc = .ok (.ireturn, 1)) : JO K own cc nL (some .int) R 0 0 (MZ K) pc L [.int v] X Y (rI v X Y) := by
  intro out ho p l e s m args below meth c H locs ls C hP hS hl
  cases ho
  exact W.iret C.ex C.co C.re (fun t ht hW => ⟨⟨rfl, by rw [ht]; exact hP⟩, hS.F ht⟩) hS.2.2 hd C.lk
theorem j_zret {v : Int32} (hd : decode cc pc = .ok (.ireturn, 1)) (hv : narrow .boolean (.int v) = .int v) : JO K own cc nL (some .boolean) R 0 0 (MZ K) pc L [.int v] X Y (rI v X Y) := by
  intro out ho p l e s m args below meth c H locs ls C hP hS hl
  cases ho
  exact W.zret C.ex C.co C.re hv (fun t ht hW => ⟨⟨rfl, by rw [ht]; exact hP⟩, hS.F ht⟩) hS.2.2 hd C.lk
theorem zb_nar {v : Int32} (h : zb v = true) : narrow .boolean (.int v) = .int v := by
  have h2 : v = 0 ∨ v = 1 := by simpa [zb] using h
  rcases h2 with rfl | rfl <;> decide
theorem j_zretG {v : Int32} (hd : decode cc pc = .ok (.ireturn, 1)) : JO K own cc nL (some .boolean) R 0 0 (MZ K) pc L [.int v] X Y (gd (zb v) (rI v X Y)) := by
  cases hb : zb v with
  | false => exact fun out ho => by cases ho
  | true => exact j_zret hd (zb_nar hb)
theorem j_lret {v : Int64} (hd : decode cc pc = .ok (.lreturn, 1)) : JO K own cc nL (some .long) R 0 0 (MZ K) pc L [.long v] X Y (rL v X Y) := by
  intro out ho p l e s m args below meth c H locs ls C hP hS hl
  cases ho
  exact W.lret C.ex C.co C.re (fun t ht hW => ⟨⟨rfl, by rw [ht]; exact hP⟩, hS.F ht⟩) hS.2.2 hd C.lk
theorem j_vret (hd : decode cc pc = .ok (.return_, 1)) : JO K own cc nL none R 0 0 (MZ K) pc L [] X Y (rV X Y) := by
  intro out ho p l e s m args below meth c H locs ls C hP hS hl
  cases ho
  exact W.vret C.ex C.co C.re (fun t ht hW => ⟨⟨rfl, by rw [ht]; exact hP⟩, hS.F ht⟩) hS.2.2 hd C.lk
theorem j_aret {v : Nat} {n : String} (hd : decode cc pc = .ok (.areturn, 1)) : JO K own cc nL (some (.object n)) R 0 0 (MZ K) pc L [.ref v] X Y (rR v X Y) := by
  intro out ho p l e s m args below meth c H locs ls C hP hS hl
  cases ho
  exact W.aret (v := .ref (kad K v)) C.ex C.co C.re (Or.inl ⟨_, rfl⟩) (Or.inr ⟨_, rfl⟩) (fun t ht hW => ⟨⟨rfl, by rw [ht]; exact hP⟩, hS.F ht⟩) hS.2.2 hd C.lk
end JR3
