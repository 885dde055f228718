/-! the law: rules -/
def LZ (b Ln : Nat) (xs : Nat → Int32) (h0 : Nat) : PZT := fun _ below args s => fun t => (args = #[Value.ref b] ∧ va_X b Ln xs s s.heap ∧ b < s.heap.size ∧ s.heap.size = h0) → lw_Z below args s t
def o0 : Out := (none, (fun _ _ => 0), (fun _ => 0))
def kB (K : KK) (b h0 : Nat) : Prop := kOK K ∧ kts K 3 = b ∧ b < h0 ∧ kA K = fun q => h0 ≤ q
abbrev JL (K : KK) (b Ln : Nat) (xs : Nat → Int32) (h0 pc : Nat) (L : List (Option Value)) (S : List Value) (X : HI) (Y : HL) : Prop := JO K "BrinePansLaw" code 4 ret room_1 86 966 (LZ b Ln xs h0) pc L S X Y (some o0)
def lawL (i : Nat) : List (Option Value) := [some (.float 3), some (.ref 0), some (.ref 70), some (.int (nI i))]
section LR
variable {K : KK} {b Ln h0 : Nat} {xs : Nat → Int32} {pc q i : Nat} {L : List (Option Value)} {S st0 : List Value} {X X1 : HI} {Y Y1 : HL} {o : Option Out}
theorem w_skip {p : Program} {l : Launch} {e : Env} {R : Room} {s : State} {m : MethodId} {args : Array Value} {below : List Frame} {meth : Method} {c : Code} {H : Heap} {locs : List Loc} {cells slots : Nat} {g : JFrame} {P : Prop} {Q : State → Prop} (h : P → W p l e R s m args below meth c H locs cells slots (fun t => P → Q t) g) : W p l e R s m args below meth c H locs cells slots (fun t => P → Q t) g := by
  by_cases hp : P
  · exact h hp
  · intro T hT X
    exact ⟨_, Steps.refl _, fun hq => absurd hq hp⟩
theorem j_aloadF {own : String} {cc : ByteArray} {nL : Nat} {ret : Option FieldType} {R : Room} {kc ns : Nat} {PZ : PZT} {k : Fin 4} {i : Nat} {x : UInt32} (hd : decode cc pc = .ok (.aload_n k, 1)) (hi : (k : Nat) = i) (hl0 : L[i]? = some (some (.float x))) (hq : pc + 1 = q) (h : JO K own cc nL ret R kc ns PZ q L (.float x :: S) X Y o) : JO K own cc nL ret R kc ns PZ pc L S X Y o :=
  fun out ho p l e s m args below meth c H locs ls C hP hS hl => lv_aload_n (x := kts K x.toNat) C.ex C.co hd hi (hl.at hl0) (by subst hq; exact h out ho p l e s m args below meth c H locs ls C hP hS hl)
theorem l_sld {x : Int32} (hb : kB K b h0) (hd : decode code pc = .ok (.iaload, 1)) (hin : vp_in x Ln) (hq : pc + 1 = q) (h : JL K b Ln xs h0 q L (.int (xs x.toNatClampNeg) :: S) X Y) : JL K b Ln xs h0 pc L (.int x :: .float 3 :: S) X Y := by
  intro out ho p l e s m args below meth c H locs ls C hP hS hl
  refine w_skip (fun hc => ?_)
  obtain ⟨hc1, hc2, hc3, hc4⟩ := id hc
  subst hq
  have hbA : ¬ kA K b := by rw [hb.2.2.2]; exact Nat.not_le.mpr hb.2.2.1
  have k1 := h out ho p l e s m args below meth c H locs ls C hP hS hl
  show W p l e room_1 s m args below meth c H locs 86 966 _ (F0 m pc ls (.int x :: .ref (kts K 3) :: S.map (trV K)))
  rw [hb.2.1]
  exact va_sld C.ex C.co hc2 hc3 hbA hS hin hd k1
theorem l_slen (hb : kB K b h0) (hd : decode code pc = .ok (.arraylength, 1)) (hq : pc + 1 = q) (h : JL K b Ln xs h0 q L (.int (nI Ln) :: S) X Y) : JL K b Ln xs h0 pc L (.float 3 :: S) X Y := by
  intro out ho p l e s m args below meth c H locs ls C hP hS hl
  refine w_skip (fun hc => ?_)
  obtain ⟨hc1, hc2, hc3, hc4⟩ := id hc
  subst hq
  have hbA : ¬ kA K b := by rw [hb.2.2.2]; exact Nat.not_le.mpr hb.2.2.1
  have k1 := h out ho p l e s m args below meth c H locs ls C hP hS hl
  show W p l e room_1 s m args below meth c H locs 86 966 _ (F0 m pc ls (.ref (kts K 3) :: S.map (trV K)))
  rw [hb.2.1]
  exact va_slen C.ex C.co hc2 hc3 hbA hS hd k1
theorem l_end (hb : kB K b h0) (hd : decode code pc = .ok (.ireturn, 1)) : JL K b Ln xs h0 pc L [.int 1] X Y := by
  intro out ho p l e s m args below meth c H locs ls C hP hS hl
  refine w_skip (fun hc => ?_)
  obtain ⟨hc1, hc2, hc3, hc4⟩ := id hc
  subst hc1
  refine va_forget (fun q hq => by have := hS.2.2 q hq; rw [hb.2.2.2] at this; rw [hc4]; exact this) ?_
  refine W.widen (k := 600000) (n := 7302249) (Nat.le_of_ble_eq_true rfl) (Nat.le_of_ble_eq_true rfl) ?_
  intro T hT Xs
  obtain ⟨t, a1, b1⟩ := lw_ret (p := p) (l := l) (e := e) (below := below) C.ex C.co C.re C.lk hd T hT Xs
  exact ⟨t, a1, fun _ => b1⟩
theorem l_callI {index : Nat} {y : MethodName} {bytes : ByteArray} {maxL n : Nat} {retc : Option FieldType} {rm : Room} {a : Nat} {r : Int32} (As : List Value) (hd : decode code pc = .ok (.invokevirtual index, 3)) (hw : MW y bytes maxL retc n) (hv : MV y) (hl : Cond.methodLink "BrinePansLaw" index y ∈ gw) (hob : OB a y.cls) (hst : st0 = As.reverse ++ .ref a :: S) (hn : As.length = n) {o1 : Option Out} (hc : CT K y bytes maxL retc rm (.ref a :: As) X Y o1) (e1 : o1 = rI r X1 Y1) (hR : RM room_1 rm maxL 86 966) (hS8 : (S.map (fun v => v.category)).sum ≤ 8) (hq : pc + 3 = q) (h : JL K b Ln xs h0 q L (.int r :: S) X1 Y1) : JL K b Ln xs h0 pc L st0 X Y := by
  have t := j_callVi (PZ := LZ b Ln xs h0) (L := L) (kc := 86) (ns := 966) (ret := ret) (nL := 4) (k := fun r' X' Y' => @ite _ (r' = r ∧ X' = X1 ∧ Y' = Y1) (Classical.propDecidable _) (some o0) none) As hd hw hv hl hob hst hn hc hR hS8 hq (fun r' X' Y' => by
    by_cases he : r' = r ∧ X' = X1 ∧ Y' = Y1
    · rw [if_pos he]
      obtain ⟨rfl, rfl, rfl⟩ := he
      exact h
    · rw [if_neg he]
      exact j_none)
  rw [e1, bi_rI, if_pos ⟨rfl, rfl, rfl⟩] at t
  exact t
theorem l_callL {index : Nat} {y : MethodName} {bytes : ByteArray} {maxL n : Nat} {retc : Option FieldType} {rm : Room} {a : Nat} {r : Int64} (As : List Value) (hd : decode code pc = .ok (.invokevirtual index, 3)) (hw : MW y bytes maxL retc n) (hv : MV y) (hl : Cond.methodLink "BrinePansLaw" index y ∈ gw) (hob : OB a y.cls) (hst : st0 = As.reverse ++ .ref a :: S) (hn : As.length = n) {o1 : Option Out} (hc : CT K y bytes maxL retc rm (.ref a :: As) X Y o1) (e1 : o1 = rL r X1 Y1) (hR : RM room_1 rm maxL 86 966) (hS8 : (S.map (fun v => v.category)).sum ≤ 8) (hq : pc + 3 = q) (h : JL K b Ln xs h0 q L (.long r :: S) X1 Y1) : JL K b Ln xs h0 pc L st0 X Y := by
  have t := j_callVl (PZ := LZ b Ln xs h0) (L := L) (kc := 86) (ns := 966) (ret := ret) (nL := 4) (k := fun r' X' Y' => @ite _ (r' = r ∧ X' = X1 ∧ Y' = Y1) (Classical.propDecidable _) (some o0) none) As hd hw hv hl hob hst hn hc hR hS8 hq (fun r' X' Y' => by
    by_cases he : r' = r ∧ X' = X1 ∧ Y' = Y1
    · rw [if_pos he]
      obtain ⟨rfl, rfl, rfl⟩ := he
      exact h
    · rw [if_neg he]
      exact j_none)
  rw [e1, bl_rL, if_pos ⟨rfl, rfl, rfl⟩] at t
  exact t
theorem l_eqT {x : Int32} {off : Int} {t : Nat} (hd : decode code pc = .ok (.if_icmp .eq off, 3)) (ht : (pc : Int) + off = (t : Int)) (h : JL K b Ln xs h0 t L S X Y) : JL K b Ln xs h0 pc L (.int x :: .int x :: S) X Y := by
  have e := j_icmp_eq (q := pc + 3) (x := x) (y := x) hd ht rfl h (j_none (PZ := LZ b Ln xs h0))
  rw [if_pos rfl] at e
  exact e
theorem l_zT {x : Int32} {off : Int} {t : Nat} (hx : x = 0) (hd : decode code pc = .ok (.ifCond .eq off, 3)) (ht : (pc : Int) + off = (t : Int)) (h : JL K b Ln xs h0 t L S X Y) : JL K b Ln xs h0 pc L (.int x :: S) X Y := by
  have e := j_if_eq (q := pc + 3) (x := x) hd ht rfl h (j_none (PZ := LZ b Ln xs h0))
  rw [if_pos hx] at e
  exact e
theorem l_zF {x : Int32} {off : Int} {t : Nat} (hx : ¬ x = 0) (hd : decode code pc = .ok (.ifCond .eq off, 3)) (ht : (pc : Int) + off = (t : Int)) (h : JL K b Ln xs h0 (pc + 3) L S X Y) : JL K b Ln xs h0 pc L (.int x :: S) X Y := by
  have e := j_if_eq (q := pc + 3) (x := x) hd ht rfl (j_none (PZ := LZ b Ln xs h0)) h
  rw [if_neg hx] at e
  exact e
theorem l_bool {x : Int32} {off off2 : Int} {t u : Nat} (d1 : decode code pc = .ok (.ifCond .eq off, 3)) (ht : (pc : Int) + off = (t : Int)) (d2 : decode code (pc + 3) = .ok (.iconst 1, 1)) (d3 : decode code (pc + 4) = .ok (.goto off2, 3)) (hu : ((pc + 4 : Nat) : Int) + off2 = (u : Int)) (d4 : decode code t = .ok (.iconst 0, 1)) (hu2 : t + 1 = u) (h : JL K b Ln xs h0 u L (.int (if x = 0 then 0 else 1) :: S) X Y) : JL K b Ln xs h0 pc L (.int x :: S) X Y := by
  by_cases hx : x = 0
  · rw [if_pos hx] at h
    exact l_zT hx d1 ht (j_iconst d4 (by decide) hu2 h)
  · rw [if_neg hx] at h
    exact l_zF hx d1 ht (j_iconst d2 (by decide) rfl (j_goto d3 hu h))
theorem l_arg {k : Nat} {kk : Int} (hb : kB K b h0) (hL : Ln ≤ 3072) (d1 : decode code pc = .ok (.aload_n 0, 1)) (d2 : decode code (pc + 1) = .ok (.iload_n 3, 1)) (d3 : decode code (pc + 2) = .ok (.iconst kk, 1)) (d4 : decode code (pc + 3) = .ok (.iadd, 1)) (d5 : decode code (pc + 4) = .ok (.iaload, 1)) (hk : Int32.ofInt kk = nI k) (hi : i + k < Ln) (h : JL K b Ln xs h0 (pc + 5) (lawL i) (.int (xs (i + k)) :: S) X Y) : JL K b Ln xs h0 pc (lawL i) S X Y := by
  refine j_aloadF d1 rfl rfl rfl ?_
  refine j_iload_n d2 rfl rfl rfl ?_
  refine j_iconst d3 hk rfl ?_
  refine j_iadd d4 rfl ?_
  rw [nI_add]
  refine l_sld hb d5 (vp_in_nI hi (by omega)) rfl ?_
  rw [cl_nI (by omega)]
  exact h
theorem cmp_rr (x : Int64) : lg_cmp x x = 0 := (lg_cmp_eq x x).mpr rfl
def lgV (x y : Int32) : Int64 := (x.toInt64 <<< ((32 : Int32).toInt64 &&& 63)) ||| (y.toInt64 &&& (4294967295 : Int64))
end LR
theorem lc_0 {K : KK} {b Ln h0 T i : Nat} {xs : Nat → Int32} {X : HI} {Y : HL} (hb : kB K b h0) (hL : Ln ≤ 3072) (hi : i + 6 ≤ Ln) (hT : T < 1000) (hR : Rel T X Y) (hk : ∀ X2 Y2, Rel (T + 1) X2 Y2 → JL K b Ln xs h0 997 (lawL i) [] X2 Y2) : JL K b Ln xs h0 160 (lawL i) [] X Y := by
  obtain ⟨r, X1, Y1, X2, Y2, e1, e2, h3⟩ := ok_write ((xs (i + 1))) T X Y hT hR
  refine j_aload_n dl_160 rfl rfl rfl ?_
  refine l_arg (k := 1) hb hL dl_161 dl_162 dl_163 dl_164 dl_165 (by decide) (by omega) ?_
  refine l_callI (r := r) (X1 := X1) (Y1 := Y1) (S := []) [.int (xs (i + 1))] dl_166 mw_Bri_write mv_Bri_write (gw_t 165 (by decide +kernel) (by decide +kernel)) ob_0 rfl rfl (c_Bri_write hb.1 ((xs (i + 1))) X Y) e1 ⟨⟨rfl, rfl⟩, ⟨(Nat.le_of_ble_eq_true rfl), (Nat.le_of_ble_eq_true rfl)⟩, ⟨(Nat.le_of_ble_eq_true rfl), (Nat.le_of_ble_eq_true rfl)⟩⟩ (Nat.le_of_ble_eq_true rfl) rfl ?_
  refine j_aload_n dl_169 rfl rfl rfl ?_
  refine l_arg (k := 1) hb hL dl_170 dl_171 dl_172 dl_173 dl_174 (by decide) (by omega) ?_
  refine l_callI (r := r) (X1 := X2) (Y1 := Y2) (S := [.int r]) [.int (xs (i + 1))] dl_175 mw_Mod_write mv_Mod_write (gw_t 634 (by decide +kernel) (by decide +kernel)) ob_70 rfl rfl (c_Mod_write hb.1 ((xs (i + 1))) X1 Y1) e2 ⟨⟨rfl, rfl⟩, ⟨(Nat.le_of_ble_eq_true rfl), (Nat.le_of_ble_eq_true rfl)⟩, ⟨(Nat.le_of_ble_eq_true rfl), (Nat.le_of_ble_eq_true rfl)⟩⟩ (Nat.le_of_ble_eq_true rfl) rfl ?_
  refine l_eqT (t := 997) dl_178 (by decide) ?_
  exact hk X2 Y2 h3
theorem lc_1 {K : KK} {b Ln h0 T i : Nat} {xs : Nat → Int32} {X : HI} {Y : HL} (hb : kB K b h0) (hL : Ln ≤ 3072) (hi : i + 6 ≤ Ln) (hT : T < 1000) (hR : Rel T X Y) (hk : ∀ X2 Y2, Rel (T + 1) X2 Y2 → JL K b Ln xs h0 997 (lawL i) [] X2 Y2) : JL K b Ln xs h0 183 (lawL i) [] X Y := by
  obtain ⟨r, X1, Y1, X2, Y2, e1, e2, h3⟩ := ok_wipe T X Y hT hR
  refine j_aload_n dl_183 rfl rfl rfl ?_
  refine l_callI (r := r) (X1 := X1) (Y1 := Y1) (S := []) [] dl_184 mw_Bri_wipe mv_Bri_wipe (gw_t 173 (by decide +kernel) (by decide +kernel)) ob_0 rfl rfl (c_Bri_wipe hb.1 X Y) e1 ⟨⟨rfl, rfl⟩, ⟨(Nat.le_of_ble_eq_true rfl), (Nat.le_of_ble_eq_true rfl)⟩, ⟨(Nat.le_of_ble_eq_true rfl), (Nat.le_of_ble_eq_true rfl)⟩⟩ (Nat.le_of_ble_eq_true rfl) rfl ?_
  refine j_aload_n dl_187 rfl rfl rfl ?_
  refine l_callI (r := r) (X1 := X2) (Y1 := Y2) (S := [.int r]) [] dl_188 mw_Mod_wipe mv_Mod_wipe (gw_t 642 (by decide +kernel) (by decide +kernel)) ob_70 rfl rfl (c_Mod_wipe hb.1 X1 Y1) e2 ⟨⟨rfl, rfl⟩, ⟨(Nat.le_of_ble_eq_true rfl), (Nat.le_of_ble_eq_true rfl)⟩, ⟨(Nat.le_of_ble_eq_true rfl), (Nat.le_of_ble_eq_true rfl)⟩⟩ (Nat.le_of_ble_eq_true rfl) rfl ?_
  refine l_eqT (t := 997) dl_191 (by decide) ?_
  exact hk X2 Y2 h3
theorem lc_2 {K : KK} {b Ln h0 T i : Nat} {xs : Nat → Int32} {X : HI} {Y : HL} (hb : kB K b h0) (hL : Ln ≤ 3072) (hi : i + 6 ≤ Ln) (hT : T < 1000) (hR : Rel T X Y) (hk : ∀ X2 Y2, Rel (T + 1) X2 Y2 → JL K b Ln xs h0 997 (lawL i) [] X2 Y2) : JL K b Ln xs h0 196 (lawL i) [] X Y := by
  obtain ⟨r, X1, Y1, X2, Y2, e1, e2, h3⟩ := ok_fault T X Y hT hR
  refine j_aload_n dl_196 rfl rfl rfl ?_
  refine l_callI (r := r) (X1 := X1) (Y1 := Y1) (S := []) [] dl_197 mw_Bri_fault mv_Bri_fault (gw_t 181 (by decide +kernel) (by decide +kernel)) ob_0 rfl rfl (c_Bri_fault hb.1 X Y) e1 ⟨⟨rfl, rfl⟩, ⟨(Nat.le_of_ble_eq_true rfl), (Nat.le_of_ble_eq_true rfl)⟩, ⟨(Nat.le_of_ble_eq_true rfl), (Nat.le_of_ble_eq_true rfl)⟩⟩ (Nat.le_of_ble_eq_true rfl) rfl ?_
  refine j_aload_n dl_200 rfl rfl rfl ?_
  refine l_callI (r := r) (X1 := X2) (Y1 := Y2) (S := [.int r]) [] dl_201 mw_Mod_fault mv_Mod_fault (gw_t 646 (by decide +kernel) (by decide +kernel)) ob_70 rfl rfl (c_Mod_fault hb.1 X1 Y1) e2 ⟨⟨rfl, rfl⟩, ⟨(Nat.le_of_ble_eq_true rfl), (Nat.le_of_ble_eq_true rfl)⟩, ⟨(Nat.le_of_ble_eq_true rfl), (Nat.le_of_ble_eq_true rfl)⟩⟩ (Nat.le_of_ble_eq_true rfl) rfl ?_
  refine l_eqT (t := 997) dl_204 (by decide) ?_
  exact hk X2 Y2 h3
theorem lc_3 {K : KK} {b Ln h0 T i : Nat} {xs : Nat → Int32} {X : HI} {Y : HL} (hb : kB K b h0) (hL : Ln ≤ 3072) (hi : i + 6 ≤ Ln) (hT : T < 1000) (hR : Rel T X Y) (hk : ∀ X2 Y2, Rel (T + 1) X2 Y2 → JL K b Ln xs h0 997 (lawL i) [] X2 Y2) : JL K b Ln xs h0 209 (lawL i) [] X Y := by
  obtain ⟨r, X1, Y1, X2, Y2, e1, e2, h3⟩ := ok_marsh T X Y hT hR
  refine j_aload_n dl_209 rfl rfl rfl ?_
  refine l_callI (r := r) (X1 := X1) (Y1 := Y1) (S := []) [] dl_210 mw_Bri_marsh mv_Bri_marsh (gw_t 198 (by decide +kernel) (by decide +kernel)) ob_0 rfl rfl (c_Bri_marsh hb.1 X Y) e1 ⟨⟨rfl, rfl⟩, ⟨(Nat.le_of_ble_eq_true rfl), (Nat.le_of_ble_eq_true rfl)⟩, ⟨(Nat.le_of_ble_eq_true rfl), (Nat.le_of_ble_eq_true rfl)⟩⟩ (Nat.le_of_ble_eq_true rfl) rfl ?_
  refine j_aload_n dl_213 rfl rfl rfl ?_
  refine l_callI (r := r) (X1 := X2) (Y1 := Y2) (S := [.int r]) [] dl_214 mw_Mod_marsh mv_Mod_marsh (gw_t 670 (by decide +kernel) (by decide +kernel)) ob_70 rfl rfl (c_Mod_marsh hb.1 X1 Y1) e2 ⟨⟨rfl, rfl⟩, ⟨(Nat.le_of_ble_eq_true rfl), (Nat.le_of_ble_eq_true rfl)⟩, ⟨(Nat.le_of_ble_eq_true rfl), (Nat.le_of_ble_eq_true rfl)⟩⟩ (Nat.le_of_ble_eq_true rfl) rfl ?_
  refine l_eqT (t := 997) dl_217 (by decide) ?_
  exact hk X2 Y2 h3
theorem lc_4 {K : KK} {b Ln h0 T i : Nat} {xs : Nat → Int32} {X : HI} {Y : HL} (hb : kB K b h0) (hL : Ln ≤ 3072) (hi : i + 6 ≤ Ln) (hT : T < 1000) (hR : Rel T X Y) (hk : ∀ X2 Y2, Rel (T + 1) X2 Y2 → JL K b Ln xs h0 997 (lawL i) [] X2 Y2) : JL K b Ln xs h0 222 (lawL i) [] X Y := by
  obtain ⟨r, X1, Y1, X2, Y2, e1, e2, h3⟩ := ok_about ((xs (i + 1))) T X Y hT hR
  refine j_aload_n dl_222 rfl rfl rfl ?_
  refine l_arg (k := 1) hb hL dl_223 dl_224 dl_225 dl_226 dl_227 (by decide) (by omega) ?_
  refine l_callI (r := r) (X1 := X1) (Y1 := Y1) (S := []) [.int (xs (i + 1))] dl_228 mw_Bri_about mv_Bri_about (gw_t 238 (by decide +kernel) (by decide +kernel)) ob_0 rfl rfl (c_Bri_about hb.1 ((xs (i + 1))) X Y) e1 ⟨⟨rfl, rfl⟩, ⟨(Nat.le_of_ble_eq_true rfl), (Nat.le_of_ble_eq_true rfl)⟩, ⟨(Nat.le_of_ble_eq_true rfl), (Nat.le_of_ble_eq_true rfl)⟩⟩ (Nat.le_of_ble_eq_true rfl) rfl ?_
  refine j_aload_n dl_231 rfl rfl rfl ?_
  refine l_arg (k := 1) hb hL dl_232 dl_233 dl_234 dl_235 dl_236 (by decide) (by omega) ?_
  refine l_callI (r := r) (X1 := X2) (Y1 := Y2) (S := [.int r]) [.int (xs (i + 1))] dl_237 mw_Mod_about mv_Mod_about (gw_t 674 (by decide +kernel) (by decide +kernel)) ob_70 rfl rfl (c_Mod_about hb.1 ((xs (i + 1))) X1 Y1) e2 ⟨⟨rfl, rfl⟩, ⟨(Nat.le_of_ble_eq_true rfl), (Nat.le_of_ble_eq_true rfl)⟩, ⟨(Nat.le_of_ble_eq_true rfl), (Nat.le_of_ble_eq_true rfl)⟩⟩ (Nat.le_of_ble_eq_true rfl) rfl ?_
  refine l_eqT (t := 997) dl_240 (by decide) ?_
  exact hk X2 Y2 h3
theorem lc_5 {K : KK} {b Ln h0 T i : Nat} {xs : Nat → Int32} {X : HI} {Y : HL} (hb : kB K b h0) (hL : Ln ≤ 3072) (hi : i + 6 ≤ Ln) (hT : T < 1000) (hR : Rel T X Y) (hk : ∀ X2 Y2, Rel (T + 1) X2 Y2 → JL K b Ln xs h0 997 (lawL i) [] X2 Y2) : JL K b Ln xs h0 245 (lawL i) [] X Y := by
  obtain ⟨r, X1, Y1, X2, Y2, e1, e2, h3⟩ := ok_pan ((xs (i + 1))) ((xs (i + 2))) T X Y hT hR
  refine j_aload_n dl_245 rfl rfl rfl ?_
  refine l_arg (k := 1) hb hL dl_246 dl_247 dl_248 dl_249 dl_250 (by decide) (by omega) ?_
  refine l_arg (k := 2) hb hL dl_251 dl_252 dl_253 dl_254 dl_255 (by decide) (by omega) ?_
  refine l_callI (r := r) (X1 := X1) (Y1 := Y1) (S := []) [.int (xs (i + 1)), .int (xs (i + 2))] dl_256 mw_Bri_pan mv_Bri_pan (gw_t 270 (by decide +kernel) (by decide +kernel)) ob_0 rfl rfl (c_Bri_pan hb.1 ((xs (i + 1))) ((xs (i + 2))) X Y) e1 ⟨⟨rfl, rfl⟩, ⟨(Nat.le_of_ble_eq_true rfl), (Nat.le_of_ble_eq_true rfl)⟩, ⟨(Nat.le_of_ble_eq_true rfl), (Nat.le_of_ble_eq_true rfl)⟩⟩ (Nat.le_of_ble_eq_true rfl) rfl ?_
  refine j_aload_n dl_259 rfl rfl rfl ?_
  refine l_arg (k := 1) hb hL dl_260 dl_261 dl_262 dl_263 dl_264 (by decide) (by omega) ?_
  refine l_arg (k := 2) hb hL dl_265 dl_266 dl_267 dl_268 dl_269 (by decide) (by omega) ?_
  refine l_callI (r := r) (X1 := X2) (Y1 := Y2) (S := [.int r]) [.int (xs (i + 1)), .int (xs (i + 2))] dl_270 mw_Mod_pan mv_Mod_pan (gw_t 703 (by decide +kernel) (by decide +kernel)) ob_70 rfl rfl (c_Mod_pan hb.1 ((xs (i + 1))) ((xs (i + 2))) X1 Y1) e2 ⟨⟨rfl, rfl⟩, ⟨(Nat.le_of_ble_eq_true rfl), (Nat.le_of_ble_eq_true rfl)⟩, ⟨(Nat.le_of_ble_eq_true rfl), (Nat.le_of_ble_eq_true rfl)⟩⟩ (Nat.le_of_ble_eq_true rfl) rfl ?_
  refine l_eqT (t := 997) dl_273 (by decide) ?_
  exact hk X2 Y2 h3
theorem lc_6 {K : KK} {b Ln h0 T i : Nat} {xs : Nat → Int32} {X : HI} {Y : HL} (hb : kB K b h0) (hL : Ln ≤ 3072) (hi : i + 6 ≤ Ln) (hT : T < 1000) (hR : Rel T X Y) (hk : ∀ X2 Y2, Rel (T + 1) X2 Y2 → JL K b Ln xs h0 997 (lawL i) [] X2 Y2) : JL K b Ln xs h0 278 (lawL i) [] X Y := by
  obtain ⟨r, X1, Y1, X2, Y2, e1, e2, h3⟩ := ok_day T X Y hT hR
  refine j_aload_n dl_278 rfl rfl rfl ?_
  refine l_callI (r := r) (X1 := X1) (Y1 := Y1) (S := []) [] dl_279 mw_Bri_day mv_Bri_day (gw_t 285 (by decide +kernel) (by decide +kernel)) ob_0 rfl rfl (c_Bri_day hb.1 X Y) e1 ⟨⟨rfl, rfl⟩, ⟨(Nat.le_of_ble_eq_true rfl), (Nat.le_of_ble_eq_true rfl)⟩, ⟨(Nat.le_of_ble_eq_true rfl), (Nat.le_of_ble_eq_true rfl)⟩⟩ (Nat.le_of_ble_eq_true rfl) rfl ?_
  refine j_aload_n dl_282 rfl rfl rfl ?_
  refine l_callI (r := r) (X1 := X2) (Y1 := Y2) (S := [.int r]) [] dl_283 mw_Mod_day mv_Mod_day (gw_t 715 (by decide +kernel) (by decide +kernel)) ob_70 rfl rfl (c_Mod_day hb.1 X1 Y1) e2 ⟨⟨rfl, rfl⟩, ⟨(Nat.le_of_ble_eq_true rfl), (Nat.le_of_ble_eq_true rfl)⟩, ⟨(Nat.le_of_ble_eq_true rfl), (Nat.le_of_ble_eq_true rfl)⟩⟩ (Nat.le_of_ble_eq_true rfl) rfl ?_
  refine l_eqT (t := 997) dl_286 (by decide) ?_
  exact hk X2 Y2 h3
theorem lc_7 {K : KK} {b Ln h0 T i : Nat} {xs : Nat → Int32} {X : HI} {Y : HL} (hb : kB K b h0) (hL : Ln ≤ 3072) (hi : i + 6 ≤ Ln) (hT : T < 1000) (hR : Rel T X Y) (hk : ∀ X2 Y2, Rel (T + 1) X2 Y2 → JL K b Ln xs h0 997 (lawL i) [] X2 Y2) : JL K b Ln xs h0 291 (lawL i) [] X Y := by
  obtain ⟨r, X1, Y1, X2, Y2, e1, e2, h3⟩ := ok_sea ((xs (i + 1))) T X Y hT hR
  refine j_aload_n dl_291 rfl rfl rfl ?_
  refine l_arg (k := 1) hb hL dl_292 dl_293 dl_294 dl_295 dl_296 (by decide) (by omega) ?_
  refine l_callI (r := r) (X1 := X1) (Y1 := Y1) (S := []) [.int (xs (i + 1))] dl_297 mw_Bri_sea mv_Bri_sea (gw_t 353 (by decide +kernel) (by decide +kernel)) ob_0 rfl rfl (c_Bri_sea hb.1 ((xs (i + 1))) X Y) e1 ⟨⟨rfl, rfl⟩, ⟨(Nat.le_of_ble_eq_true rfl), (Nat.le_of_ble_eq_true rfl)⟩, ⟨(Nat.le_of_ble_eq_true rfl), (Nat.le_of_ble_eq_true rfl)⟩⟩ (Nat.le_of_ble_eq_true rfl) rfl ?_
  refine j_aload_n dl_300 rfl rfl rfl ?_
  refine l_arg (k := 1) hb hL dl_301 dl_302 dl_303 dl_304 dl_305 (by decide) (by omega) ?_
  refine l_callI (r := r) (X1 := X2) (Y1 := Y2) (S := [.int r]) [.int (xs (i + 1))] dl_306 mw_Mod_sea mv_Mod_sea (gw_t 743 (by decide +kernel) (by decide +kernel)) ob_70 rfl rfl (c_Mod_sea hb.1 ((xs (i + 1))) X1 Y1) e2 ⟨⟨rfl, rfl⟩, ⟨(Nat.le_of_ble_eq_true rfl), (Nat.le_of_ble_eq_true rfl)⟩, ⟨(Nat.le_of_ble_eq_true rfl), (Nat.le_of_ble_eq_true rfl)⟩⟩ (Nat.le_of_ble_eq_true rfl) rfl ?_
  refine l_eqT (t := 997) dl_309 (by decide) ?_
  exact hk X2 Y2 h3
theorem lc_8 {K : KK} {b Ln h0 T i : Nat} {xs : Nat → Int32} {X : HI} {Y : HL} (hb : kB K b h0) (hL : Ln ≤ 3072) (hi : i + 6 ≤ Ln) (hT : T < 1000) (hR : Rel T X Y) (hk : ∀ X2 Y2, Rel (T + 1) X2 Y2 → JL K b Ln xs h0 997 (lawL i) [] X2 Y2) : JL K b Ln xs h0 314 (lawL i) [] X Y := by
  obtain ⟨r, X1, Y1, X2, Y2, e1, e2, h3⟩ := ok_let ((xs (i + 1))) ((xs (i + 2))) T X Y hT hR
  refine j_aload_n dl_314 rfl rfl rfl ?_
  refine l_arg (k := 1) hb hL dl_315 dl_316 dl_317 dl_318 dl_319 (by decide) (by omega) ?_
  refine l_arg (k := 2) hb hL dl_320 dl_321 dl_322 dl_323 dl_324 (by decide) (by omega) ?_
  refine l_callI (r := r) (X1 := X1) (Y1 := Y1) (S := []) [.int (xs (i + 1)), .int (xs (i + 2))] dl_325 mw_Bri_let mv_Bri_let (gw_t 361 (by decide +kernel) (by decide +kernel)) ob_0 rfl rfl (c_Bri_let hb.1 ((xs (i + 1))) ((xs (i + 2))) X Y) e1 ⟨⟨rfl, rfl⟩, ⟨(Nat.le_of_ble_eq_true rfl), (Nat.le_of_ble_eq_true rfl)⟩, ⟨(Nat.le_of_ble_eq_true rfl), (Nat.le_of_ble_eq_true rfl)⟩⟩ (Nat.le_of_ble_eq_true rfl) rfl ?_
  refine j_aload_n dl_328 rfl rfl rfl ?_
  refine l_arg (k := 1) hb hL dl_329 dl_330 dl_331 dl_332 dl_333 (by decide) (by omega) ?_
  refine l_arg (k := 2) hb hL dl_334 dl_335 dl_336 dl_337 dl_338 (by decide) (by omega) ?_
  refine l_callI (r := r) (X1 := X2) (Y1 := Y2) (S := [.int r]) [.int (xs (i + 1)), .int (xs (i + 2))] dl_339 mw_Mod_let mv_Mod_let (gw_t 751 (by decide +kernel) (by decide +kernel)) ob_70 rfl rfl (c_Mod_let hb.1 ((xs (i + 1))) ((xs (i + 2))) X1 Y1) e2 ⟨⟨rfl, rfl⟩, ⟨(Nat.le_of_ble_eq_true rfl), (Nat.le_of_ble_eq_true rfl)⟩, ⟨(Nat.le_of_ble_eq_true rfl), (Nat.le_of_ble_eq_true rfl)⟩⟩ (Nat.le_of_ble_eq_true rfl) rfl ?_
  refine l_eqT (t := 997) dl_342 (by decide) ?_
  exact hk X2 Y2 h3
theorem lc_9 {K : KK} {b Ln h0 T i : Nat} {xs : Nat → Int32} {X : HI} {Y : HL} (hb : kB K b h0) (hL : Ln ≤ 3072) (hi : i + 6 ≤ Ln) (hT : T < 1000) (hR : Rel T X Y) (hk : ∀ X2 Y2, Rel (T + 1) X2 Y2 → JL K b Ln xs h0 997 (lawL i) [] X2 Y2) : JL K b Ln xs h0 347 (lawL i) [] X Y := by
  obtain ⟨r, X1, Y1, X2, Y2, e1, e2, h3⟩ := ok_turn ((xs (i + 1))) T X Y hT hR
  refine j_aload_n dl_347 rfl rfl rfl ?_
  refine l_arg (k := 1) hb hL dl_348 dl_349 dl_350 dl_351 dl_352 (by decide) (by omega) ?_
  refine l_callI (r := r) (X1 := X1) (Y1 := Y1) (S := []) [.int (xs (i + 1))] dl_353 mw_Bri_turn mv_Bri_turn (gw_t 366 (by decide +kernel) (by decide +kernel)) ob_0 rfl rfl (c_Bri_turn hb.1 ((xs (i + 1))) X Y) e1 ⟨⟨rfl, rfl⟩, ⟨(Nat.le_of_ble_eq_true rfl), (Nat.le_of_ble_eq_true rfl)⟩, ⟨(Nat.le_of_ble_eq_true rfl), (Nat.le_of_ble_eq_true rfl)⟩⟩ (Nat.le_of_ble_eq_true rfl) rfl ?_
  refine j_aload_n dl_356 rfl rfl rfl ?_
  refine l_arg (k := 1) hb hL dl_357 dl_358 dl_359 dl_360 dl_361 (by decide) (by omega) ?_
  refine l_callI (r := r) (X1 := X2) (Y1 := Y2) (S := [.int r]) [.int (xs (i + 1))] dl_362 mw_Mod_turn mv_Mod_turn (gw_t 759 (by decide +kernel) (by decide +kernel)) ob_70 rfl rfl (c_Mod_turn hb.1 ((xs (i + 1))) X1 Y1) e2 ⟨⟨rfl, rfl⟩, ⟨(Nat.le_of_ble_eq_true rfl), (Nat.le_of_ble_eq_true rfl)⟩, ⟨(Nat.le_of_ble_eq_true rfl), (Nat.le_of_ble_eq_true rfl)⟩⟩ (Nat.le_of_ble_eq_true rfl) rfl ?_
  refine l_eqT (t := 997) dl_365 (by decide) ?_
  exact hk X2 Y2 h3
theorem lc_10 {K : KK} {b Ln h0 T i : Nat} {xs : Nat → Int32} {X : HI} {Y : HL} (hb : kB K b h0) (hL : Ln ≤ 3072) (hi : i + 6 ≤ Ln) (hT : T < 1000) (hR : Rel T X Y) (hk : ∀ X2 Y2, Rel (T + 1) X2 Y2 → JL K b Ln xs h0 997 (lawL i) [] X2 Y2) : JL K b Ln xs h0 370 (lawL i) [] X Y := by
  obtain ⟨r, X1, Y1, X2, Y2, e1, e2, h3⟩ := ok_rake ((xs (i + 1))) T X Y hT hR
  refine j_aload_n dl_370 rfl rfl rfl ?_
  refine l_arg (k := 1) hb hL dl_371 dl_372 dl_373 dl_374 dl_375 (by decide) (by omega) ?_
  refine l_callI (r := r) (X1 := X1) (Y1 := Y1) (S := []) [.int (xs (i + 1))] dl_376 mw_Bri_rake mv_Bri_rake (gw_t 378 (by decide +kernel) (by decide +kernel)) ob_0 rfl rfl (c_Bri_rake hb.1 ((xs (i + 1))) X Y) e1 ⟨⟨rfl, rfl⟩, ⟨(Nat.le_of_ble_eq_true rfl), (Nat.le_of_ble_eq_true rfl)⟩, ⟨(Nat.le_of_ble_eq_true rfl), (Nat.le_of_ble_eq_true rfl)⟩⟩ (Nat.le_of_ble_eq_true rfl) rfl ?_
  refine j_aload_n dl_379 rfl rfl rfl ?_
  refine l_arg (k := 1) hb hL dl_380 dl_381 dl_382 dl_383 dl_384 (by decide) (by omega) ?_
  refine l_callI (r := r) (X1 := X2) (Y1 := Y2) (S := [.int r]) [.int (xs (i + 1))] dl_385 mw_Mod_rake mv_Mod_rake (gw_t 763 (by decide +kernel) (by decide +kernel)) ob_70 rfl rfl (c_Mod_rake hb.1 ((xs (i + 1))) X1 Y1) e2 ⟨⟨rfl, rfl⟩, ⟨(Nat.le_of_ble_eq_true rfl), (Nat.le_of_ble_eq_true rfl)⟩, ⟨(Nat.le_of_ble_eq_true rfl), (Nat.le_of_ble_eq_true rfl)⟩⟩ (Nat.le_of_ble_eq_true rfl) rfl ?_
  refine l_eqT (t := 997) dl_388 (by decide) ?_
  exact hk X2 Y2 h3
theorem lc_11 {K : KK} {b Ln h0 T i : Nat} {xs : Nat → Int32} {X : HI} {Y : HL} (hb : kB K b h0) (hL : Ln ≤ 3072) (hi : i + 6 ≤ Ln) (hT : T < 1000) (hR : Rel T X Y) (hk : ∀ X2 Y2, Rel (T + 1) X2 Y2 → JL K b Ln xs h0 997 (lawL i) [] X2 Y2) : JL K b Ln xs h0 393 (lawL i) [] X Y := by
  obtain ⟨r, X1, Y1, X2, Y2, e1, e2, h3⟩ := ok_undo T X Y hT hR
  refine j_aload_n dl_393 rfl rfl rfl ?_
  refine l_callI (r := r) (X1 := X1) (Y1 := Y1) (S := []) [] dl_394 mw_Bri_undo mv_Bri_undo (gw_t 386 (by decide +kernel) (by decide +kernel)) ob_0 rfl rfl (c_Bri_undo hb.1 X Y) e1 ⟨⟨rfl, rfl⟩, ⟨(Nat.le_of_ble_eq_true rfl), (Nat.le_of_ble_eq_true rfl)⟩, ⟨(Nat.le_of_ble_eq_true rfl), (Nat.le_of_ble_eq_true rfl)⟩⟩ (Nat.le_of_ble_eq_true rfl) rfl ?_
  refine j_aload_n dl_397 rfl rfl rfl ?_
  refine l_callI (r := r) (X1 := X2) (Y1 := Y2) (S := [.int r]) [] dl_398 mw_Mod_undo mv_Mod_undo (gw_t 770 (by decide +kernel) (by decide +kernel)) ob_70 rfl rfl (c_Mod_undo hb.1 X1 Y1) e2 ⟨⟨rfl, rfl⟩, ⟨(Nat.le_of_ble_eq_true rfl), (Nat.le_of_ble_eq_true rfl)⟩, ⟨(Nat.le_of_ble_eq_true rfl), (Nat.le_of_ble_eq_true rfl)⟩⟩ (Nat.le_of_ble_eq_true rfl) rfl ?_
  refine l_eqT (t := 997) dl_401 (by decide) ?_
  exact hk X2 Y2 h3
theorem lc_12 {K : KK} {b Ln h0 T i : Nat} {xs : Nat → Int32} {X : HI} {Y : HL} (hb : kB K b h0) (hL : Ln ≤ 3072) (hi : i + 6 ≤ Ln) (hT : T < 1000) (hR : Rel T X Y) (hk : ∀ X2 Y2, Rel (T + 1) X2 Y2 → JL K b Ln xs h0 997 (lawL i) [] X2 Y2) : JL K b Ln xs h0 406 (lawL i) [] X Y := by
  obtain ⟨r, X1, Y1, X2, Y2, e1, e2, h3⟩ := ok_later ((xs (i + 1))) ((xs (i + 2))) ((xs (i + 3))) T X Y hT hR
  refine j_aload_n dl_406 rfl rfl rfl ?_
  refine l_arg (k := 1) hb hL dl_407 dl_408 dl_409 dl_410 dl_411 (by decide) (by omega) ?_
  refine l_arg (k := 2) hb hL dl_412 dl_413 dl_414 dl_415 dl_416 (by decide) (by omega) ?_
  refine l_arg (k := 3) hb hL dl_417 dl_418 dl_419 dl_420 dl_421 (by decide) (by omega) ?_
  refine l_callI (r := r) (X1 := X1) (Y1 := Y1) (S := []) [.int (xs (i + 1)), .int (xs (i + 2)), .int (xs (i + 3))] dl_422 mw_Bri_later mv_Bri_later (gw_t 394 (by decide +kernel) (by decide +kernel)) ob_0 rfl rfl (c_Bri_later hb.1 ((xs (i + 1))) ((xs (i + 2))) ((xs (i + 3))) X Y) e1 ⟨⟨rfl, rfl⟩, ⟨(Nat.le_of_ble_eq_true rfl), (Nat.le_of_ble_eq_true rfl)⟩, ⟨(Nat.le_of_ble_eq_true rfl), (Nat.le_of_ble_eq_true rfl)⟩⟩ (Nat.le_of_ble_eq_true rfl) rfl ?_
  refine j_aload_n dl_425 rfl rfl rfl ?_
  refine l_arg (k := 1) hb hL dl_426 dl_427 dl_428 dl_429 dl_430 (by decide) (by omega) ?_
  refine l_arg (k := 2) hb hL dl_431 dl_432 dl_433 dl_434 dl_435 (by decide) (by omega) ?_
  refine l_arg (k := 3) hb hL dl_436 dl_437 dl_438 dl_439 dl_440 (by decide) (by omega) ?_
  refine l_callI (r := r) (X1 := X2) (Y1 := Y2) (S := [.int r]) [.int (xs (i + 1)), .int (xs (i + 2)), .int (xs (i + 3))] dl_441 mw_Mod_later mv_Mod_later (gw_t 774 (by decide +kernel) (by decide +kernel)) ob_70 rfl rfl (c_Mod_later hb.1 ((xs (i + 1))) ((xs (i + 2))) ((xs (i + 3))) X1 Y1) e2 ⟨⟨rfl, rfl⟩, ⟨(Nat.le_of_ble_eq_true rfl), (Nat.le_of_ble_eq_true rfl)⟩, ⟨(Nat.le_of_ble_eq_true rfl), (Nat.le_of_ble_eq_true rfl)⟩⟩ (Nat.le_of_ble_eq_true rfl) rfl ?_
  refine l_eqT (t := 997) dl_444 (by decide) ?_
  exact hk X2 Y2 h3
theorem lc_13 {K : KK} {b Ln h0 T i : Nat} {xs : Nat → Int32} {X : HI} {Y : HL} (hb : kB K b h0) (hL : Ln ≤ 3072) (hi : i + 6 ≤ Ln) (hT : T < 1000) (hR : Rel T X Y) (hk : ∀ X2 Y2, Rel (T + 1) X2 Y2 → JL K b Ln xs h0 997 (lawL i) [] X2 Y2) : JL K b Ln xs h0 449 (lawL i) [] X Y := by
  obtain ⟨r, X1, Y1, X2, Y2, e1, e2, h3⟩ := ok_crust ((xs (i + 1))) T X Y hT hR
  refine j_aload_n dl_449 rfl rfl rfl ?_
  refine l_arg (k := 1) hb hL dl_450 dl_451 dl_452 dl_453 dl_454 (by decide) (by omega) ?_
  refine l_callI (r := r) (X1 := X1) (Y1 := Y1) (S := []) [.int (xs (i + 1))] dl_455 mw_Bri_crust mv_Bri_crust (gw_t 404 (by decide +kernel) (by decide +kernel)) ob_0 rfl rfl (c_Bri_crust hb.1 ((xs (i + 1))) X Y) e1 ⟨⟨rfl, rfl⟩, ⟨(Nat.le_of_ble_eq_true rfl), (Nat.le_of_ble_eq_true rfl)⟩, ⟨(Nat.le_of_ble_eq_true rfl), (Nat.le_of_ble_eq_true rfl)⟩⟩ (Nat.le_of_ble_eq_true rfl) rfl ?_
  refine j_aload_n dl_458 rfl rfl rfl ?_
  refine l_arg (k := 1) hb hL dl_459 dl_460 dl_461 dl_462 dl_463 (by decide) (by omega) ?_
  refine l_callI (r := r) (X1 := X2) (Y1 := Y2) (S := [.int r]) [.int (xs (i + 1))] dl_464 mw_Mod_crust mv_Mod_crust (gw_t 788 (by decide +kernel) (by decide +kernel)) ob_70 rfl rfl (c_Mod_crust hb.1 ((xs (i + 1))) X1 Y1) e2 ⟨⟨rfl, rfl⟩, ⟨(Nat.le_of_ble_eq_true rfl), (Nat.le_of_ble_eq_true rfl)⟩, ⟨(Nat.le_of_ble_eq_true rfl), (Nat.le_of_ble_eq_true rfl)⟩⟩ (Nat.le_of_ble_eq_true rfl) rfl ?_
  refine l_eqT (t := 997) dl_467 (by decide) ?_
  exact hk X2 Y2 h3
theorem lc_14 {K : KK} {b Ln h0 T i : Nat} {xs : Nat → Int32} {X : HI} {Y : HL} (hb : kB K b h0) (hL : Ln ≤ 3072) (hi : i + 6 ≤ Ln) (hT : T < 1000) (hR : Rel T X Y) (hk : ∀ X2 Y2, Rel (T + 1) X2 Y2 → JL K b Ln xs h0 997 (lawL i) [] X2 Y2) : JL K b Ln xs h0 472 (lawL i) [] X Y := by
  obtain ⟨r, X1, Y1, X2, Y2, e1, e2, h3⟩ := ok_ripe ((xs (i + 1))) T X Y hT hR
  refine j_aload_n dl_472 rfl rfl rfl ?_
  refine l_arg (k := 1) hb hL dl_473 dl_474 dl_475 dl_476 dl_477 (by decide) (by omega) ?_
  refine l_callI (r := r) (X1 := X1) (Y1 := Y1) (S := []) [.int (xs (i + 1))] dl_478 mw_Bri_ripe mv_Bri_ripe (gw_t 414 (by decide +kernel) (by decide +kernel)) ob_0 rfl rfl (c_Bri_ripe hb.1 ((xs (i + 1))) X Y) e1 ⟨⟨rfl, rfl⟩, ⟨(Nat.le_of_ble_eq_true rfl), (Nat.le_of_ble_eq_true rfl)⟩, ⟨(Nat.le_of_ble_eq_true rfl), (Nat.le_of_ble_eq_true rfl)⟩⟩ (Nat.le_of_ble_eq_true rfl) rfl ?_
  refine j_aload_n dl_481 rfl rfl rfl ?_
  refine l_arg (k := 1) hb hL dl_482 dl_483 dl_484 dl_485 dl_486 (by decide) (by omega) ?_
  refine l_callI (r := r) (X1 := X2) (Y1 := Y2) (S := [.int r]) [.int (xs (i + 1))] dl_487 mw_Mod_ripe mv_Mod_ripe (gw_t 792 (by decide +kernel) (by decide +kernel)) ob_70 rfl rfl (c_Mod_ripe hb.1 ((xs (i + 1))) X1 Y1) e2 ⟨⟨rfl, rfl⟩, ⟨(Nat.le_of_ble_eq_true rfl), (Nat.le_of_ble_eq_true rfl)⟩, ⟨(Nat.le_of_ble_eq_true rfl), (Nat.le_of_ble_eq_true rfl)⟩⟩ (Nat.le_of_ble_eq_true rfl) rfl ?_
  refine l_eqT (t := 997) dl_490 (by decide) ?_
  exact hk X2 Y2 h3
theorem lc_15 {K : KK} {b Ln h0 T i : Nat} {xs : Nat → Int32} {X : HI} {Y : HL} (hb : kB K b h0) (hL : Ln ≤ 3072) (hi : i + 6 ≤ Ln) (hT : T < 1000) (hR : Rel T X Y) (hk : ∀ X2 Y2, Rel (T + 1) X2 Y2 → JL K b Ln xs h0 997 (lawL i) [] X2 Y2) : JL K b Ln xs h0 495 (lawL i) [] X Y := by
  obtain ⟨r, X1, Y1, X2, Y2, e1, e2, h3⟩ := ok_best ((xs (i + 1))) ((xs (i + 2))) T X Y hT hR
  refine j_aload_n dl_495 rfl rfl rfl ?_
  refine l_arg (k := 1) hb hL dl_496 dl_497 dl_498 dl_499 dl_500 (by decide) (by omega) ?_
  refine l_arg (k := 2) hb hL dl_501 dl_502 dl_503 dl_504 dl_505 (by decide) (by omega) ?_
  refine l_callI (r := r) (X1 := X1) (Y1 := Y1) (S := []) [.int (xs (i + 1)), .int (xs (i + 2))] dl_506 mw_Bri_best mv_Bri_best (gw_t 419 (by decide +kernel) (by decide +kernel)) ob_0 rfl rfl (c_Bri_best hb.1 ((xs (i + 1))) ((xs (i + 2))) X Y) e1 ⟨⟨rfl, rfl⟩, ⟨(Nat.le_of_ble_eq_true rfl), (Nat.le_of_ble_eq_true rfl)⟩, ⟨(Nat.le_of_ble_eq_true rfl), (Nat.le_of_ble_eq_true rfl)⟩⟩ (Nat.le_of_ble_eq_true rfl) rfl ?_
  refine j_aload_n dl_509 rfl rfl rfl ?_
  refine l_arg (k := 1) hb hL dl_510 dl_511 dl_512 dl_513 dl_514 (by decide) (by omega) ?_
  refine l_arg (k := 2) hb hL dl_515 dl_516 dl_517 dl_518 dl_519 (by decide) (by omega) ?_
  refine l_callI (r := r) (X1 := X2) (Y1 := Y2) (S := [.int r]) [.int (xs (i + 1)), .int (xs (i + 2))] dl_520 mw_Mod_best mv_Mod_best (gw_t 796 (by decide +kernel) (by decide +kernel)) ob_70 rfl rfl (c_Mod_best hb.1 ((xs (i + 1))) ((xs (i + 2))) X1 Y1) e2 ⟨⟨rfl, rfl⟩, ⟨(Nat.le_of_ble_eq_true rfl), (Nat.le_of_ble_eq_true rfl)⟩, ⟨(Nat.le_of_ble_eq_true rfl), (Nat.le_of_ble_eq_true rfl)⟩⟩ (Nat.le_of_ble_eq_true rfl) rfl ?_
  refine l_eqT (t := 997) dl_523 (by decide) ?_
  exact hk X2 Y2 h3
theorem lc_16 {K : KK} {b Ln h0 T i : Nat} {xs : Nat → Int32} {X : HI} {Y : HL} (hb : kB K b h0) (hL : Ln ≤ 3072) (hi : i + 6 ≤ Ln) (hT : T < 1000) (hR : Rel T X Y) (hk : ∀ X2 Y2, Rel (T + 1) X2 Y2 → JL K b Ln xs h0 997 (lawL i) [] X2 Y2) : JL K b Ln xs h0 528 (lawL i) [] X Y := by
  obtain ⟨r, X1, Y1, X2, Y2, e1, e2, h3⟩ := ok_gates ((xs (i + 1))) ((xs (i + 2))) T X Y hT hR
  refine j_aload_n dl_528 rfl rfl rfl ?_
  refine l_arg (k := 1) hb hL dl_529 dl_530 dl_531 dl_532 dl_533 (by decide) (by omega) ?_
  refine l_arg (k := 2) hb hL dl_534 dl_535 dl_536 dl_537 dl_538 (by decide) (by omega) ?_
  refine l_callI (r := r) (X1 := X1) (Y1 := Y1) (S := []) [.int (xs (i + 1)), .int (xs (i + 2))] dl_539 mw_Bri_gates mv_Bri_gates (gw_t 424 (by decide +kernel) (by decide +kernel)) ob_0 rfl rfl (c_Bri_gates hb.1 ((xs (i + 1))) ((xs (i + 2))) X Y) e1 ⟨⟨rfl, rfl⟩, ⟨(Nat.le_of_ble_eq_true rfl), (Nat.le_of_ble_eq_true rfl)⟩, ⟨(Nat.le_of_ble_eq_true rfl), (Nat.le_of_ble_eq_true rfl)⟩⟩ (Nat.le_of_ble_eq_true rfl) rfl ?_
  refine j_aload_n dl_542 rfl rfl rfl ?_
  refine l_arg (k := 1) hb hL dl_543 dl_544 dl_545 dl_546 dl_547 (by decide) (by omega) ?_
  refine l_arg (k := 2) hb hL dl_548 dl_549 dl_550 dl_551 dl_552 (by decide) (by omega) ?_
  refine l_callI (r := r) (X1 := X2) (Y1 := Y2) (S := [.int r]) [.int (xs (i + 1)), .int (xs (i + 2))] dl_553 mw_Mod_gates mv_Mod_gates (gw_t 804 (by decide +kernel) (by decide +kernel)) ob_70 rfl rfl (c_Mod_gates hb.1 ((xs (i + 1))) ((xs (i + 2))) X1 Y1) e2 ⟨⟨rfl, rfl⟩, ⟨(Nat.le_of_ble_eq_true rfl), (Nat.le_of_ble_eq_true rfl)⟩, ⟨(Nat.le_of_ble_eq_true rfl), (Nat.le_of_ble_eq_true rfl)⟩⟩ (Nat.le_of_ble_eq_true rfl) rfl ?_
  refine l_eqT (t := 997) dl_556 (by decide) ?_
  exact hk X2 Y2 h3
theorem lc_17 {K : KK} {b Ln h0 T i : Nat} {xs : Nat → Int32} {X : HI} {Y : HL} (hb : kB K b h0) (hL : Ln ≤ 3072) (hi : i + 6 ≤ Ln) (hT : T < 1000) (hR : Rel T X Y) (hk : ∀ X2 Y2, Rel (T + 1) X2 Y2 → JL K b Ln xs h0 997 (lawL i) [] X2 Y2) : JL K b Ln xs h0 561 (lawL i) [] X Y := by
  obtain ⟨r, X1, Y1, X2, Y2, e1, e2, h3⟩ := ok_judge ((xs (i + 1))) ((lgV (xs (i + 2)) (xs (i + 3)))) T X Y hT hR
  refine j_aload_n dl_561 rfl rfl rfl ?_
  refine l_arg (k := 1) hb hL dl_562 dl_563 dl_564 dl_565 dl_566 (by decide) (by omega) ?_
  refine l_arg (k := 2) hb hL dl_567 dl_568 dl_569 dl_570 dl_571 (by decide) (by omega) ?_
  refine j_i2l dl_572 rfl ?_
  refine j_bipush (v := 32) dl_573 (by decide) rfl ?_
  refine j_lshl dl_575 rfl ?_
  refine l_arg (k := 3) hb hL dl_576 dl_577 dl_578 dl_579 dl_580 (by decide) (by omega) ?_
  refine j_i2l dl_581 rfl ?_
  refine j_ldc2 (v := 4294967295) dl_582 (gw_t 903 (by decide +kernel) (by decide +kernel)) rfl ?_
  refine j_land dl_585 rfl ?_
  refine j_lor dl_586 rfl ?_
  refine l_callI (r := r) (X1 := X1) (Y1 := Y1) (S := []) [.int (xs (i + 1)), .long (lgV (xs (i + 2)) (xs (i + 3)))] dl_587 mw_Bri_judge mv_Bri_judge (gw_t 434 (by decide +kernel) (by decide +kernel)) ob_0 rfl rfl (c_Bri_judge hb.1 ((xs (i + 1))) ((lgV (xs (i + 2)) (xs (i + 3)))) X Y) e1 ⟨⟨rfl, rfl⟩, ⟨(Nat.le_of_ble_eq_true rfl), (Nat.le_of_ble_eq_true rfl)⟩, ⟨(Nat.le_of_ble_eq_true rfl), (Nat.le_of_ble_eq_true rfl)⟩⟩ (Nat.le_of_ble_eq_true rfl) rfl ?_
  refine j_aload_n dl_590 rfl rfl rfl ?_
  refine l_arg (k := 1) hb hL dl_591 dl_592 dl_593 dl_594 dl_595 (by decide) (by omega) ?_
  refine l_arg (k := 2) hb hL dl_596 dl_597 dl_598 dl_599 dl_600 (by decide) (by omega) ?_
  refine j_i2l dl_601 rfl ?_
  refine j_bipush (v := 32) dl_602 (by decide) rfl ?_
  refine j_lshl dl_604 rfl ?_
  refine l_arg (k := 3) hb hL dl_605 dl_606 dl_607 dl_608 dl_609 (by decide) (by omega) ?_
  refine j_i2l dl_610 rfl ?_
  refine j_ldc2 (v := 4294967295) dl_611 (gw_t 903 (by decide +kernel) (by decide +kernel)) rfl ?_
  refine j_land dl_614 rfl ?_
  refine j_lor dl_615 rfl ?_
  refine l_callI (r := r) (X1 := X2) (Y1 := Y2) (S := [.int r]) [.int (xs (i + 1)), .long (lgV (xs (i + 2)) (xs (i + 3)))] dl_616 mw_Mod_judge mv_Mod_judge (gw_t 812 (by decide +kernel) (by decide +kernel)) ob_70 rfl rfl (c_Mod_judge hb.1 ((xs (i + 1))) ((lgV (xs (i + 2)) (xs (i + 3)))) X1 Y1) e2 ⟨⟨rfl, rfl⟩, ⟨(Nat.le_of_ble_eq_true rfl), (Nat.le_of_ble_eq_true rfl)⟩, ⟨(Nat.le_of_ble_eq_true rfl), (Nat.le_of_ble_eq_true rfl)⟩⟩ (Nat.le_of_ble_eq_true rfl) rfl ?_
  refine l_eqT (t := 997) dl_619 (by decide) ?_
  exact hk X2 Y2 h3
theorem lc_18 {K : KK} {b Ln h0 T i : Nat} {xs : Nat → Int32} {X : HI} {Y : HL} (hb : kB K b h0) (hL : Ln ≤ 3072) (hi : i + 6 ≤ Ln) (hT : T < 1000) (hR : Rel T X Y) (hk : ∀ X2 Y2, Rel (T + 1) X2 Y2 → JL K b Ln xs h0 997 (lawL i) [] X2 Y2) : JL K b Ln xs h0 624 (lawL i) [] X Y := by
  obtain ⟨r, X1, Y1, X2, Y2, e1, e2, h3⟩ := ok_share ((xs (i + 1))) ((if (xs (i + 2)) = 0 then 0 else 1)) T X Y hT hR
  refine j_aload_n dl_624 rfl rfl rfl ?_
  refine l_arg (k := 1) hb hL dl_625 dl_626 dl_627 dl_628 dl_629 (by decide) (by omega) ?_
  refine l_arg (k := 2) hb hL dl_630 dl_631 dl_632 dl_633 dl_634 (by decide) (by omega) ?_
  refine l_bool (t := 642) (u := 643) dl_635 (by decide) dl_638 dl_639 (by decide) dl_642 rfl ?_
  refine l_callI (r := r) (X1 := X1) (Y1 := Y1) (S := []) [.int (xs (i + 1)), .int (if (xs (i + 2)) = 0 then 0 else 1)] dl_643 mw_Bri_share mv_Bri_share (gw_t 449 (by decide +kernel) (by decide +kernel)) ob_0 rfl rfl (c_Bri_share hb.1 ((xs (i + 1))) ((if (xs (i + 2)) = 0 then 0 else 1)) X Y) e1 ⟨⟨rfl, rfl⟩, ⟨(Nat.le_of_ble_eq_true rfl), (Nat.le_of_ble_eq_true rfl)⟩, ⟨(Nat.le_of_ble_eq_true rfl), (Nat.le_of_ble_eq_true rfl)⟩⟩ (Nat.le_of_ble_eq_true rfl) rfl ?_
  refine j_aload_n dl_646 rfl rfl rfl ?_
  refine l_arg (k := 1) hb hL dl_647 dl_648 dl_649 dl_650 dl_651 (by decide) (by omega) ?_
  refine l_arg (k := 2) hb hL dl_652 dl_653 dl_654 dl_655 dl_656 (by decide) (by omega) ?_
  refine l_bool (t := 664) (u := 665) dl_657 (by decide) dl_660 dl_661 (by decide) dl_664 rfl ?_
  refine l_callI (r := r) (X1 := X2) (Y1 := Y2) (S := [.int r]) [.int (xs (i + 1)), .int (if (xs (i + 2)) = 0 then 0 else 1)] dl_665 mw_Mod_share mv_Mod_share (gw_t 841 (by decide +kernel) (by decide +kernel)) ob_70 rfl rfl (c_Mod_share hb.1 ((xs (i + 1))) ((if (xs (i + 2)) = 0 then 0 else 1)) X1 Y1) e2 ⟨⟨rfl, rfl⟩, ⟨(Nat.le_of_ble_eq_true rfl), (Nat.le_of_ble_eq_true rfl)⟩, ⟨(Nat.le_of_ble_eq_true rfl), (Nat.le_of_ble_eq_true rfl)⟩⟩ (Nat.le_of_ble_eq_true rfl) rfl ?_
  refine l_eqT (t := 997) dl_668 (by decide) ?_
  exact hk X2 Y2 h3
theorem lc_19 {K : KK} {b Ln h0 T i : Nat} {xs : Nat → Int32} {X : HI} {Y : HL} (hb : kB K b h0) (hL : Ln ≤ 3072) (hi : i + 6 ≤ Ln) (hT : T < 1000) (hR : Rel T X Y) (hk : ∀ X2 Y2, Rel (T + 1) X2 Y2 → JL K b Ln xs h0 997 (lawL i) [] X2 Y2) : JL K b Ln xs h0 673 (lawL i) [] X Y := by
  obtain ⟨r, X1, Y1, X2, Y2, e1, e2, h3⟩ := ok_find ((xs (i + 1))) ((xs (i + 2))) ((xs (i + 3))) T X Y hT hR
  refine j_aload_n dl_673 rfl rfl rfl ?_
  refine l_arg (k := 1) hb hL dl_674 dl_675 dl_676 dl_677 dl_678 (by decide) (by omega) ?_
  refine l_arg (k := 2) hb hL dl_679 dl_680 dl_681 dl_682 dl_683 (by decide) (by omega) ?_
  refine l_arg (k := 3) hb hL dl_684 dl_685 dl_686 dl_687 dl_688 (by decide) (by omega) ?_
  refine l_callI (r := r) (X1 := X1) (Y1 := Y1) (S := []) [.int (xs (i + 1)), .int (xs (i + 2)), .int (xs (i + 3))] dl_689 mw_Bri_find mv_Bri_find (gw_t 468 (by decide +kernel) (by decide +kernel)) ob_0 rfl rfl (c_Bri_find hb.1 ((xs (i + 1))) ((xs (i + 2))) ((xs (i + 3))) X Y) e1 ⟨⟨rfl, rfl⟩, ⟨(Nat.le_of_ble_eq_true rfl), (Nat.le_of_ble_eq_true rfl)⟩, ⟨(Nat.le_of_ble_eq_true rfl), (Nat.le_of_ble_eq_true rfl)⟩⟩ (Nat.le_of_ble_eq_true rfl) rfl ?_
  refine j_aload_n dl_692 rfl rfl rfl ?_
  refine l_arg (k := 1) hb hL dl_693 dl_694 dl_695 dl_696 dl_697 (by decide) (by omega) ?_
  refine l_arg (k := 2) hb hL dl_698 dl_699 dl_700 dl_701 dl_702 (by decide) (by omega) ?_
  refine l_arg (k := 3) hb hL dl_703 dl_704 dl_705 dl_706 dl_707 (by decide) (by omega) ?_
  refine l_callI (r := r) (X1 := X2) (Y1 := Y2) (S := [.int r]) [.int (xs (i + 1)), .int (xs (i + 2)), .int (xs (i + 3))] dl_708 mw_Mod_find mv_Mod_find (gw_t 854 (by decide +kernel) (by decide +kernel)) ob_70 rfl rfl (c_Mod_find hb.1 ((xs (i + 1))) ((xs (i + 2))) ((xs (i + 3))) X1 Y1) e2 ⟨⟨rfl, rfl⟩, ⟨(Nat.le_of_ble_eq_true rfl), (Nat.le_of_ble_eq_true rfl)⟩, ⟨(Nat.le_of_ble_eq_true rfl), (Nat.le_of_ble_eq_true rfl)⟩⟩ (Nat.le_of_ble_eq_true rfl) rfl ?_
  refine l_eqT (t := 997) dl_711 (by decide) ?_
  exact hk X2 Y2 h3
theorem lc_20 {K : KK} {b Ln h0 T i : Nat} {xs : Nat → Int32} {X : HI} {Y : HL} (hb : kB K b h0) (hL : Ln ≤ 3072) (hi : i + 6 ≤ Ln) (hT : T < 1000) (hR : Rel T X Y) (hk : ∀ X2 Y2, Rel (T + 1) X2 Y2 → JL K b Ln xs h0 997 (lawL i) [] X2 Y2) : JL K b Ln xs h0 716 (lawL i) [] X Y := by
  obtain ⟨r, X1, Y1, X2, Y2, e1, e2, h3⟩ := ok_forget T X Y hT hR
  refine j_aload_n dl_716 rfl rfl rfl ?_
  refine l_callI (r := r) (X1 := X1) (Y1 := Y1) (S := []) [] dl_717 mw_Bri_forget mv_Bri_forget (gw_t 476 (by decide +kernel) (by decide +kernel)) ob_0 rfl rfl (c_Bri_forget hb.1 X Y) e1 ⟨⟨rfl, rfl⟩, ⟨(Nat.le_of_ble_eq_true rfl), (Nat.le_of_ble_eq_true rfl)⟩, ⟨(Nat.le_of_ble_eq_true rfl), (Nat.le_of_ble_eq_true rfl)⟩⟩ (Nat.le_of_ble_eq_true rfl) rfl ?_
  refine j_aload_n dl_720 rfl rfl rfl ?_
  refine l_callI (r := r) (X1 := X2) (Y1 := Y2) (S := [.int r]) [] dl_721 mw_Mod_forget mv_Mod_forget (gw_t 859 (by decide +kernel) (by decide +kernel)) ob_70 rfl rfl (c_Mod_forget hb.1 X1 Y1) e2 ⟨⟨rfl, rfl⟩, ⟨(Nat.le_of_ble_eq_true rfl), (Nat.le_of_ble_eq_true rfl)⟩, ⟨(Nat.le_of_ble_eq_true rfl), (Nat.le_of_ble_eq_true rfl)⟩⟩ (Nat.le_of_ble_eq_true rfl) rfl ?_
  refine l_eqT (t := 997) dl_724 (by decide) ?_
  exact hk X2 Y2 h3
theorem lc_21 {K : KK} {b Ln h0 T i : Nat} {xs : Nat → Int32} {X : HI} {Y : HL} (hb : kB K b h0) (hL : Ln ≤ 3072) (hi : i + 6 ≤ Ln) (hT : T < 1000) (hR : Rel T X Y) (hk : ∀ X2 Y2, Rel (T + 1) X2 Y2 → JL K b Ln xs h0 997 (lawL i) [] X2 Y2) : JL K b Ln xs h0 729 (lawL i) [] X Y := by
  obtain ⟨r, X1, Y1, X2, Y2, e1, e2, h3⟩ := ok_salts ((xs (i + 1))) T X Y hT hR
  refine j_aload_n dl_729 rfl rfl rfl ?_
  refine l_arg (k := 1) hb hL dl_730 dl_731 dl_732 dl_733 dl_734 (by decide) (by omega) ?_
  refine l_callI (r := r) (X1 := X1) (Y1 := Y1) (S := []) [.int (xs (i + 1))] dl_735 mw_Bri_salts mv_Bri_salts (gw_t 484 (by decide +kernel) (by decide +kernel)) ob_0 rfl rfl (c_Bri_salts hb.1 ((xs (i + 1))) X Y) e1 ⟨⟨rfl, rfl⟩, ⟨(Nat.le_of_ble_eq_true rfl), (Nat.le_of_ble_eq_true rfl)⟩, ⟨(Nat.le_of_ble_eq_true rfl), (Nat.le_of_ble_eq_true rfl)⟩⟩ (Nat.le_of_ble_eq_true rfl) rfl ?_
  refine j_aload_n dl_738 rfl rfl rfl ?_
  refine l_arg (k := 1) hb hL dl_739 dl_740 dl_741 dl_742 dl_743 (by decide) (by omega) ?_
  refine l_callI (r := r) (X1 := X2) (Y1 := Y2) (S := [.int r]) [.int (xs (i + 1))] dl_744 mw_Mod_salts mv_Mod_salts (gw_t 863 (by decide +kernel) (by decide +kernel)) ob_70 rfl rfl (c_Mod_salts hb.1 ((xs (i + 1))) X1 Y1) e2 ⟨⟨rfl, rfl⟩, ⟨(Nat.le_of_ble_eq_true rfl), (Nat.le_of_ble_eq_true rfl)⟩, ⟨(Nat.le_of_ble_eq_true rfl), (Nat.le_of_ble_eq_true rfl)⟩⟩ (Nat.le_of_ble_eq_true rfl) rfl ?_
  refine l_eqT (t := 997) dl_747 (by decide) ?_
  exact hk X2 Y2 h3
theorem lc_22 {K : KK} {b Ln h0 T i : Nat} {xs : Nat → Int32} {X : HI} {Y : HL} (hb : kB K b h0) (hL : Ln ≤ 3072) (hi : i + 6 ≤ Ln) (hT : T < 1000) (hR : Rel T X Y) (hk : ∀ X2 Y2, Rel (T + 1) X2 Y2 → JL K b Ln xs h0 997 (lawL i) [] X2 Y2) : JL K b Ln xs h0 752 (lawL i) [] X Y := by
  obtain ⟨r, X1, Y1, X2, Y2, e1, e2, h3⟩ := ok_rests ((xs (i + 1))) ((xs (i + 2))) ((xs (i + 3))) T X Y hT hR
  refine j_aload_n dl_752 rfl rfl rfl ?_
  refine l_arg (k := 1) hb hL dl_753 dl_754 dl_755 dl_756 dl_757 (by decide) (by omega) ?_
  refine l_arg (k := 2) hb hL dl_758 dl_759 dl_760 dl_761 dl_762 (by decide) (by omega) ?_
  refine l_arg (k := 3) hb hL dl_763 dl_764 dl_765 dl_766 dl_767 (by decide) (by omega) ?_
  refine l_callI (r := r) (X1 := X1) (Y1 := Y1) (S := []) [.int (xs (i + 1)), .int (xs (i + 2)), .int (xs (i + 3))] dl_768 mw_Bri_rests mv_Bri_rests (gw_t 493 (by decide +kernel) (by decide +kernel)) ob_0 rfl rfl (c_Bri_rests hb.1 ((xs (i + 1))) ((xs (i + 2))) ((xs (i + 3))) X Y) e1 ⟨⟨rfl, rfl⟩, ⟨(Nat.le_of_ble_eq_true rfl), (Nat.le_of_ble_eq_true rfl)⟩, ⟨(Nat.le_of_ble_eq_true rfl), (Nat.le_of_ble_eq_true rfl)⟩⟩ (Nat.le_of_ble_eq_true rfl) rfl ?_
  refine j_aload_n dl_771 rfl rfl rfl ?_
  refine l_arg (k := 1) hb hL dl_772 dl_773 dl_774 dl_775 dl_776 (by decide) (by omega) ?_
  refine l_arg (k := 2) hb hL dl_777 dl_778 dl_779 dl_780 dl_781 (by decide) (by omega) ?_
  refine l_arg (k := 3) hb hL dl_782 dl_783 dl_784 dl_785 dl_786 (by decide) (by omega) ?_
  refine l_callI (r := r) (X1 := X2) (Y1 := Y2) (S := [.int r]) [.int (xs (i + 1)), .int (xs (i + 2)), .int (xs (i + 3))] dl_787 mw_Mod_rests mv_Mod_rests (gw_t 867 (by decide +kernel) (by decide +kernel)) ob_70 rfl rfl (c_Mod_rests hb.1 ((xs (i + 1))) ((xs (i + 2))) ((xs (i + 3))) X1 Y1) e2 ⟨⟨rfl, rfl⟩, ⟨(Nat.le_of_ble_eq_true rfl), (Nat.le_of_ble_eq_true rfl)⟩, ⟨(Nat.le_of_ble_eq_true rfl), (Nat.le_of_ble_eq_true rfl)⟩⟩ (Nat.le_of_ble_eq_true rfl) rfl ?_
  refine l_eqT (t := 997) dl_790 (by decide) ?_
  exact hk X2 Y2 h3
theorem lc_23 {K : KK} {b Ln h0 T i : Nat} {xs : Nat → Int32} {X : HI} {Y : HL} (hb : kB K b h0) (hL : Ln ≤ 3072) (hi : i + 6 ≤ Ln) (hT : T < 1000) (hR : Rel T X Y) (hk : ∀ X2 Y2, Rel (T + 1) X2 Y2 → JL K b Ln xs h0 997 (lawL i) [] X2 Y2) : JL K b Ln xs h0 795 (lawL i) [] X Y := by
  obtain ⟨r, X1, Y1, X2, Y2, e1, e2, h3⟩ := ok_clouds ((xs (i + 1))) ((xs (i + 2))) ((xs (i + 3))) ((xs (i + 4))) ((if (xs (i + 5)) = 0 then 0 else 1)) T X Y hT hR
  refine j_aload_n dl_795 rfl rfl rfl ?_
  refine l_arg (k := 1) hb hL dl_796 dl_797 dl_798 dl_799 dl_800 (by decide) (by omega) ?_
  refine l_arg (k := 2) hb hL dl_801 dl_802 dl_803 dl_804 dl_805 (by decide) (by omega) ?_
  refine l_arg (k := 3) hb hL dl_806 dl_807 dl_808 dl_809 dl_810 (by decide) (by omega) ?_
  refine l_arg (k := 4) hb hL dl_811 dl_812 dl_813 dl_814 dl_815 (by decide) (by omega) ?_
  refine l_arg (k := 5) hb hL dl_816 dl_817 dl_818 dl_819 dl_820 (by decide) (by omega) ?_
  refine l_bool (t := 828) (u := 829) dl_821 (by decide) dl_824 dl_825 (by decide) dl_828 rfl ?_
  refine l_callI (r := r) (X1 := X1) (Y1 := Y1) (S := []) [.int (xs (i + 1)), .int (xs (i + 2)), .int (xs (i + 3)), .int (xs (i + 4)), .int (if (xs (i + 5)) = 0 then 0 else 1)] dl_829 mw_Bri_clouds mv_Bri_clouds (gw_t 507 (by decide +kernel) (by decide +kernel)) ob_0 rfl rfl (c_Bri_clouds hb.1 ((xs (i + 1))) ((xs (i + 2))) ((xs (i + 3))) ((xs (i + 4))) ((if (xs (i + 5)) = 0 then 0 else 1)) X Y) e1 ⟨⟨rfl, rfl⟩, ⟨(Nat.le_of_ble_eq_true rfl), (Nat.le_of_ble_eq_true rfl)⟩, ⟨(Nat.le_of_ble_eq_true rfl), (Nat.le_of_ble_eq_true rfl)⟩⟩ (Nat.le_of_ble_eq_true rfl) rfl ?_
  refine j_aload_n dl_832 rfl rfl rfl ?_
  refine l_arg (k := 1) hb hL dl_833 dl_834 dl_835 dl_836 dl_837 (by decide) (by omega) ?_
  refine l_arg (k := 2) hb hL dl_838 dl_839 dl_840 dl_841 dl_842 (by decide) (by omega) ?_
  refine l_arg (k := 3) hb hL dl_843 dl_844 dl_845 dl_846 dl_847 (by decide) (by omega) ?_
  refine l_arg (k := 4) hb hL dl_848 dl_849 dl_850 dl_851 dl_852 (by decide) (by omega) ?_
  refine l_arg (k := 5) hb hL dl_853 dl_854 dl_855 dl_856 dl_857 (by decide) (by omega) ?_
  refine l_bool (t := 865) (u := 866) dl_858 (by decide) dl_861 dl_862 (by decide) dl_865 rfl ?_
  refine l_callI (r := r) (X1 := X2) (Y1 := Y2) (S := [.int r]) [.int (xs (i + 1)), .int (xs (i + 2)), .int (xs (i + 3)), .int (xs (i + 4)), .int (if (xs (i + 5)) = 0 then 0 else 1)] dl_866 mw_Mod_clouds mv_Mod_clouds (gw_t 875 (by decide +kernel) (by decide +kernel)) ob_70 rfl rfl (c_Mod_clouds hb.1 ((xs (i + 1))) ((xs (i + 2))) ((xs (i + 3))) ((xs (i + 4))) ((if (xs (i + 5)) = 0 then 0 else 1)) X1 Y1) e2 ⟨⟨rfl, rfl⟩, ⟨(Nat.le_of_ble_eq_true rfl), (Nat.le_of_ble_eq_true rfl)⟩, ⟨(Nat.le_of_ble_eq_true rfl), (Nat.le_of_ble_eq_true rfl)⟩⟩ (Nat.le_of_ble_eq_true rfl) rfl ?_
  refine l_eqT (t := 997) dl_869 (by decide) ?_
  exact hk X2 Y2 h3
theorem lc_24 {K : KK} {b Ln h0 T i : Nat} {xs : Nat → Int32} {X : HI} {Y : HL} (hb : kB K b h0) (hL : Ln ≤ 3072) (hi : i + 6 ≤ Ln) (hT : T < 1000) (hR : Rel T X Y) (hk : ∀ X2 Y2, Rel (T + 1) X2 Y2 → JL K b Ln xs h0 997 (lawL i) [] X2 Y2) : JL K b Ln xs h0 874 (lawL i) [] X Y := by
  obtain ⟨r, X1, Y1, X2, Y2, e1, e2, h3⟩ := ok_seed ((lgV (xs (i + 1)) (xs (i + 2)))) T X Y hR
  refine j_aload_n dl_874 rfl rfl rfl ?_
  refine l_arg (k := 1) hb hL dl_875 dl_876 dl_877 dl_878 dl_879 (by decide) (by omega) ?_
  refine j_i2l dl_880 rfl ?_
  refine j_bipush (v := 32) dl_881 (by decide) rfl ?_
  refine j_lshl dl_883 rfl ?_
  refine l_arg (k := 2) hb hL dl_884 dl_885 dl_886 dl_887 dl_888 (by decide) (by omega) ?_
  refine j_i2l dl_889 rfl ?_
  refine j_ldc2 (v := 4294967295) dl_890 (gw_t 903 (by decide +kernel) (by decide +kernel)) rfl ?_
  refine j_land dl_893 rfl ?_
  refine j_lor dl_894 rfl ?_
  refine l_callL (r := r) (X1 := X1) (Y1 := Y1) (S := []) [.long (lgV (xs (i + 1)) (xs (i + 2)))] dl_895 mw_Bri_seed mv_Bri_seed (gw_t 511 (by decide +kernel) (by decide +kernel)) ob_0 rfl rfl (c_Bri_seed hb.1 ((lgV (xs (i + 1)) (xs (i + 2)))) X Y) e1 ⟨⟨rfl, rfl⟩, ⟨(Nat.le_of_ble_eq_true rfl), (Nat.le_of_ble_eq_true rfl)⟩, ⟨(Nat.le_of_ble_eq_true rfl), (Nat.le_of_ble_eq_true rfl)⟩⟩ (Nat.le_of_ble_eq_true rfl) rfl ?_
  refine j_aload_n dl_898 rfl rfl rfl ?_
  refine l_arg (k := 1) hb hL dl_899 dl_900 dl_901 dl_902 dl_903 (by decide) (by omega) ?_
  refine j_i2l dl_904 rfl ?_
  refine j_bipush (v := 32) dl_905 (by decide) rfl ?_
  refine j_lshl dl_907 rfl ?_
  refine l_arg (k := 2) hb hL dl_908 dl_909 dl_910 dl_911 dl_912 (by decide) (by omega) ?_
  refine j_i2l dl_913 rfl ?_
  refine j_ldc2 (v := 4294967295) dl_914 (gw_t 903 (by decide +kernel) (by decide +kernel)) rfl ?_
  refine j_land dl_917 rfl ?_
  refine j_lor dl_918 rfl ?_
  refine l_callL (r := r) (X1 := X2) (Y1 := Y2) (S := [.long r]) [.long (lgV (xs (i + 1)) (xs (i + 2)))] dl_919 mw_Mod_seed mv_Mod_seed (gw_t 884 (by decide +kernel) (by decide +kernel)) ob_70 rfl rfl (c_Mod_seed hb.1 ((lgV (xs (i + 1)) (xs (i + 2)))) X1 Y1) e2 ⟨⟨rfl, rfl⟩, ⟨(Nat.le_of_ble_eq_true rfl), (Nat.le_of_ble_eq_true rfl)⟩, ⟨(Nat.le_of_ble_eq_true rfl), (Nat.le_of_ble_eq_true rfl)⟩⟩ (Nat.le_of_ble_eq_true rfl) rfl ?_
  refine j_lcmp dl_922 rfl ?_
  refine l_zT (t := 997) (cmp_rr r) dl_923 (by decide) ?_
  exact hk X2 Y2 h3
theorem lc_25 {K : KK} {b Ln h0 T i : Nat} {xs : Nat → Int32} {X : HI} {Y : HL} (hb : kB K b h0) (hL : Ln ≤ 3072) (hi : i + 6 ≤ Ln) (hT : T < 1000) (hR : Rel T X Y) (hk : ∀ X2 Y2, Rel (T + 1) X2 Y2 → JL K b Ln xs h0 997 (lawL i) [] X2 Y2) : JL K b Ln xs h0 928 (lawL i) [] X Y := by
  obtain ⟨r, X1, Y1, X2, Y2, e1, e2, h3⟩ := ok_years ((xs (i + 1))) T X Y hT hR
  refine j_aload_n dl_928 rfl rfl rfl ?_
  refine l_arg (k := 1) hb hL dl_929 dl_930 dl_931 dl_932 dl_933 (by decide) (by omega) ?_
  refine l_callI (r := r) (X1 := X1) (Y1 := Y1) (S := []) [.int (xs (i + 1))] dl_934 mw_Bri_years mv_Bri_years (gw_t 515 (by decide +kernel) (by decide +kernel)) ob_0 rfl rfl (c_Bri_years hb.1 ((xs (i + 1))) X Y) e1 ⟨⟨rfl, rfl⟩, ⟨(Nat.le_of_ble_eq_true rfl), (Nat.le_of_ble_eq_true rfl)⟩, ⟨(Nat.le_of_ble_eq_true rfl), (Nat.le_of_ble_eq_true rfl)⟩⟩ (Nat.le_of_ble_eq_true rfl) rfl ?_
  refine j_aload_n dl_937 rfl rfl rfl ?_
  refine l_arg (k := 1) hb hL dl_938 dl_939 dl_940 dl_941 dl_942 (by decide) (by omega) ?_
  refine l_callI (r := r) (X1 := X2) (Y1 := Y2) (S := [.int r]) [.int (xs (i + 1))] dl_943 mw_Mod_years mv_Mod_years (gw_t 888 (by decide +kernel) (by decide +kernel)) ob_70 rfl rfl (c_Mod_years hb.1 ((xs (i + 1))) X1 Y1) e2 ⟨⟨rfl, rfl⟩, ⟨(Nat.le_of_ble_eq_true rfl), (Nat.le_of_ble_eq_true rfl)⟩, ⟨(Nat.le_of_ble_eq_true rfl), (Nat.le_of_ble_eq_true rfl)⟩⟩ (Nat.le_of_ble_eq_true rfl) rfl ?_
  refine l_eqT (t := 997) dl_946 (by decide) ?_
  exact hk X2 Y2 h3
theorem lc_26 {K : KK} {b Ln h0 T i : Nat} {xs : Nat → Int32} {X : HI} {Y : HL} (hb : kB K b h0) (hL : Ln ≤ 3072) (hi : i + 6 ≤ Ln) (hT : T < 1000) (hR : Rel T X Y) (hk : ∀ X2 Y2, Rel (T + 1) X2 Y2 → JL K b Ln xs h0 997 (lawL i) [] X2 Y2) : JL K b Ln xs h0 951 (lawL i) [] X Y := by
  obtain ⟨r, X1, Y1, X2, Y2, e1, e2, h3⟩ := ok_keep ((xs (i + 1))) T X Y hT hR
  refine j_aload_n dl_951 rfl rfl rfl ?_
  refine l_arg (k := 1) hb hL dl_952 dl_953 dl_954 dl_955 dl_956 (by decide) (by omega) ?_
  refine l_callI (r := r) (X1 := X1) (Y1 := Y1) (S := []) [.int (xs (i + 1))] dl_957 mw_Bri_keep mv_Bri_keep (gw_t 526 (by decide +kernel) (by decide +kernel)) ob_0 rfl rfl (c_Bri_keep hb.1 ((xs (i + 1))) X Y) e1 ⟨⟨rfl, rfl⟩, ⟨(Nat.le_of_ble_eq_true rfl), (Nat.le_of_ble_eq_true rfl)⟩, ⟨(Nat.le_of_ble_eq_true rfl), (Nat.le_of_ble_eq_true rfl)⟩⟩ (Nat.le_of_ble_eq_true rfl) rfl ?_
  refine j_aload_n dl_960 rfl rfl rfl ?_
  refine l_arg (k := 1) hb hL dl_961 dl_962 dl_963 dl_964 dl_965 (by decide) (by omega) ?_
  refine l_callI (r := r) (X1 := X2) (Y1 := Y2) (S := [.int r]) [.int (xs (i + 1))] dl_966 mw_Mod_keep mv_Mod_keep (gw_t 895 (by decide +kernel) (by decide +kernel)) ob_70 rfl rfl (c_Mod_keep hb.1 ((xs (i + 1))) X1 Y1) e2 ⟨⟨rfl, rfl⟩, ⟨(Nat.le_of_ble_eq_true rfl), (Nat.le_of_ble_eq_true rfl)⟩, ⟨(Nat.le_of_ble_eq_true rfl), (Nat.le_of_ble_eq_true rfl)⟩⟩ (Nat.le_of_ble_eq_true rfl) rfl ?_
  refine l_eqT (t := 997) dl_969 (by decide) ?_
  exact hk X2 Y2 h3
theorem lc_27 {K : KK} {b Ln h0 T i : Nat} {xs : Nat → Int32} {X : HI} {Y : HL} (hb : kB K b h0) (hL : Ln ≤ 3072) (hi : i + 6 ≤ Ln) (hT : T < 1000) (hR : Rel T X Y) (hk : ∀ X2 Y2, Rel (T + 1) X2 Y2 → JL K b Ln xs h0 997 (lawL i) [] X2 Y2) : JL K b Ln xs h0 974 (lawL i) [] X Y := by
  obtain ⟨r, X1, Y1, X2, Y2, e1, e2, h3⟩ := ok_again ((xs (i + 1))) T X Y hT hR
  refine j_aload_n dl_974 rfl rfl rfl ?_
  refine l_arg (k := 1) hb hL dl_975 dl_976 dl_977 dl_978 dl_979 (by decide) (by omega) ?_
  refine l_callI (r := r) (X1 := X1) (Y1 := Y1) (S := []) [.int (xs (i + 1))] dl_980 mw_Bri_again mv_Bri_again (gw_t 530 (by decide +kernel) (by decide +kernel)) ob_0 rfl rfl (c_Bri_again hb.1 ((xs (i + 1))) X Y) e1 ⟨⟨rfl, rfl⟩, ⟨(Nat.le_of_ble_eq_true rfl), (Nat.le_of_ble_eq_true rfl)⟩, ⟨(Nat.le_of_ble_eq_true rfl), (Nat.le_of_ble_eq_true rfl)⟩⟩ (Nat.le_of_ble_eq_true rfl) rfl ?_
  refine j_aload_n dl_983 rfl rfl rfl ?_
  refine l_arg (k := 1) hb hL dl_984 dl_985 dl_986 dl_987 dl_988 (by decide) (by omega) ?_
  refine l_callI (r := r) (X1 := X2) (Y1 := Y2) (S := [.int r]) [.int (xs (i + 1))] dl_989 mw_Mod_again mv_Mod_again (gw_t 899 (by decide +kernel) (by decide +kernel)) ob_70 rfl rfl (c_Mod_again hb.1 ((xs (i + 1))) X1 Y1) e2 ⟨⟨rfl, rfl⟩, ⟨(Nat.le_of_ble_eq_true rfl), (Nat.le_of_ble_eq_true rfl)⟩, ⟨(Nat.le_of_ble_eq_true rfl), (Nat.le_of_ble_eq_true rfl)⟩⟩ (Nat.le_of_ble_eq_true rfl) rfl ?_
  refine l_eqT (t := 997) dl_992 (by decide) ?_
  exact hk X2 Y2 h3
