/-! the law, from its entry -/
set_option maxHeartbeats 4000000 in
theorem whole_start {p : Program} {e : Env} {s : State} {m : MethodId} {below : List Frame} {meth : Method} {c : Code} (l : Launch) (hflags : l.flags = flags0) {b L : Nat} {xs : Nat → Int32} (hL : L ≤ 3072) (C0 : lw_At p s m meth c b L xs) : W p l e room_1 s m #[Value.ref b] below meth c s.heap [] 0 0 (lw_Z below #[Value.ref b] s) (entryFrame m ([Value.ref b] : List Value).toArray 4) := by
  obtain ⟨hx, hb, hr, hml, hown, hts, hX, hbl, hlocks, hgv⟩ := id C0
  have hown : s.vm.findClass "BrinePansLaw" = some m.cls := hown
  have hg : ∀ w ∈ gw, w.before #[Value.ref b] s = true := fun w hw => hts w (List.mem_filter.mp hw).1
  have hA : ∀ q : Nat, s.heap.size ≤ q → (fun q : Nat => s.heap.size ≤ q) q := fun _ h => h
  have hnA : ∀ a : Nat, a < s.heap.size → ¬ (fun q : Nat => s.heap.size ≤ q) a := fun a h => Nat.not_le.mpr h
  obtain ⟨c0, j0, k0⟩ := u_known (C := cAct) (T := tAct) (N := 3) (n := 3) hg uw_Act (hg _ nc_Act.2.2.2.1)
  obtain ⟨c1, j1, k1⟩ := u_known (C := cFin) (T := tFin) (N := 4) (n := 4) hg uw_Fin (hg _ nc_Fin.2.2.2.1)
  obtain ⟨c2, j2, k2⟩ := u_known (C := cGro) (T := tGro) (N := 4) (n := 4) hg uw_Gro (hg _ nc_Gro.2.2.2.1)
  obtain ⟨c3, j3, k3⟩ := u_known (C := cPan) (T := tPan) (N := 6) (n := 6) hg uw_Pan (hg _ nc_Pan.2.2.2.1)
  obtain ⟨c4, j4, k4⟩ := u_known (C := cTxt) (T := tTxt) (N := 2) (n := 2) hg uw_Txt (hg _ nc_Txt.2.2.2.1)
  obtain ⟨c5, j5, k5⟩ := u_known (C := cBri) (T := tBri) (N := 11) (n := 11) hg uw_Bri (hg _ nc_Bri.2.2.2.1)
  obtain ⟨c6, j6, k6⟩ := u_known (C := cMod) (T := tMod) (N := 31) (n := 31) hg uw_Mod (hg _ nc_Mod.2.2.2.1)
  obtain ⟨D, hKc⟩ : ∃ D : va_G, ∀ (k : Nat) (q : vw_C), classes[k]? = some q → u_Kn s q.1 q.2.1 q.2.2 (D.1 k) (D.2 k) := by
    refine ⟨(fun k => [c0, c1, c2, c3, c4, c5, c6].getD k c6, fun k => [j0, j1, j2, j3, j4, j5, j6].getD k j6), ?_⟩
    intro k q hq
    match k, hq with
    | 0, hq => cases hq; exact k0
    | 1, hq => cases hq; exact k1
    | 2, hq => cases hq; exact k2
    | 3, hq => cases hq; exact k3
    | 4, hq => cases hq; exact k4
    | 5, hq => cases hq; exact k5
    | 6, hq => cases hq; exact k6
    | k + 7, hq => simp [classes] at hq
  obtain ⟨cI, kI', compI, aI1, aI2, aI3⟩ := Cond.arrayClass_spec (hg _ ac_I)
  obtain ⟨cZ, kZ', compZ, aZ1, aZ2, aZ3⟩ := Cond.arrayClass_spec (hg _ ac_Z)
  have hov : (Cond.arrayOver (.object "BrinePans$Pans")).before #[Value.ref b] s = true := hts _ (List.mem_append_right _ (List.mem_of_getElem? (i := 97) (by decide +kernel)))
  obtain ⟨compP, cP, kP', f1, f2', f3, f4, f5⟩ := Cond.arrayOver_spec hov
  have hAO : va_AO "BrinePans$Pans" s := va_AO.of hov
  have hK : va_K D classes (tyL (cI, (cZ, cP))) s := by
    refine ⟨hKc, fun k q hq => ?_⟩
    match k, hq with
    | 0, hq => cases hq; exact ⟨fun n z => ⟨fun k h => (by cases h), kI', aI2, compI, aI3⟩, aI1⟩
    | 1, hq => cases hq; exact ⟨fun n z => ⟨fun k h => (by cases h), kZ', aZ2, compZ, aZ3⟩, aZ1⟩
    | 2, hq => cases hq; exact ⟨fun n z => ⟨fun k h => (by cases h), kP', f3, compP, f4⟩, kP', compP, f3, f4, f1, f5⟩
    | k + 3, hq => simp [tyL] at hq
  have hN : kN s := by
    intro w hw
    have h1 := hts w (List.mem_append_right _ (List.mem_filter.mp hw).1)
    have h2 := (List.mem_filter.mp hw).2
    cases w <;> first | exact va_Nw.of rfl h1 | (exfalso; simp [isNest] at h2)
  have hq := flat_of_before _ hgv
  obtain ⟨t1, ht1, hT1⟩ := va_Tof (tm := .static "BrinePans" "FACTORIALS" "[I") (ty := .int) (N := 7) (f := fun j => .int (fac j)) (A := fun q : Nat => s.heap.size ≤ q) (by decide) (hq _ (by decide +kernel)) (va_eqt (z := 7) (hq _ (by decide +kernel))) (fun j hj => by
    match j, hj with
    | 0, _ => exact va_eqt (z := 1) (hq (.eq (.elem (.static "BrinePans" "FACTORIALS" "[I") (.int 0)) (.int 1)) (by decide +kernel))
    | 1, _ => exact va_eqt (z := 1) (hq (.eq (.elem (.static "BrinePans" "FACTORIALS" "[I") (.int 1)) (.int 1)) (by decide +kernel))
    | 2, _ => exact va_eqt (z := 2) (hq (.eq (.elem (.static "BrinePans" "FACTORIALS" "[I") (.int 2)) (.int 2)) (by decide +kernel))
    | 3, _ => exact va_eqt (z := 6) (hq (.eq (.elem (.static "BrinePans" "FACTORIALS" "[I") (.int 3)) (.int 6)) (by decide +kernel))
    | 4, _ => exact va_eqt (z := 24) (hq (.eq (.elem (.static "BrinePans" "FACTORIALS" "[I") (.int 4)) (.int 24)) (by decide +kernel))
    | 5, _ => exact va_eqt (z := 120) (hq (.eq (.elem (.static "BrinePans" "FACTORIALS" "[I") (.int 5)) (.int 120)) (by decide +kernel))
    | 6, _ => exact va_eqt (z := 720) (hq (.eq (.elem (.static "BrinePans" "FACTORIALS" "[I") (.int 6)) (.int 720)) (by decide +kernel))
    | k + 7, hj => exact absurd hj (by omega)) hnA
  obtain ⟨t2, ht2, hT2⟩ := va_Tof (tm := .static "BrinePans" "THOUSANDS" "[J") (ty := .long) (N := 4) (f := fun j => .long (tho j)) (A := fun q : Nat => s.heap.size ≤ q) (by decide) (hq _ (by decide +kernel)) (va_eqt (z := 4) (hq _ (by decide +kernel))) (fun j hj => by
    match j, hj with
    | 0, _ => exact va_eqtl (z := 1) (hq (.eq (.elem (.static "BrinePans" "THOUSANDS" "[J") (.int 0)) (.long 1)) (by decide +kernel))
    | 1, _ => exact va_eqtl (z := 1000) (hq (.eq (.elem (.static "BrinePans" "THOUSANDS" "[J") (.int 1)) (.long 1000)) (by decide +kernel))
    | 2, _ => exact va_eqtl (z := 1000000) (hq (.eq (.elem (.static "BrinePans" "THOUSANDS" "[J") (.int 2)) (.long 1000000)) (by decide +kernel))
    | 3, _ => exact va_eqtl (z := 1000000000) (hq (.eq (.elem (.static "BrinePans" "THOUSANDS" "[J") (.int 3)) (.long 1000000000)) (by decide +kernel))
    | k + 4, hj => exact absurd hj (by omega)) hnA
  have hZ1 := va_Zof (A := fun q : Nat => s.heap.size ≤ q) (hts (.laysStatic "BrinePans" "FACTORIALS" "[I") (List.mem_append_right _ (List.mem_of_getElem? (i := 458) (by decide +kernel)))) (hg _ nc_Bri.2.2.2.2) ht1 hnA
  have hZ2 := va_Zof (A := fun q : Nat => s.heap.size ≤ q) (hts (.laysStatic "BrinePans" "THOUSANDS" "[J") (List.mem_append_right _ (List.mem_of_getElem? (i := 439) (by decide +kernel)))) (hg _ nc_Bri.2.2.2.2) ht2 hnA
  have hS : va_S (fun q : Nat => s.heap.size ≤ q) s.heap s.heap [] := va_S.rf
  have hP : va_P D classes [] s.heap := fun k q h => by simp at h
  have hD : va_D (fun q : Nat => s.heap.size ≤ q) [] := ⟨fun i j p q h => by simp at h, fun k q h => by simp at h⟩
  have hl := lv_entry ([.ref b]) (n := 4) (Nat.le_of_ble_eq_true rfl)
  rw [lg_entry_eq]
  generalize (lg_sl ([.ref b]) ++ List.replicate (4 - (lg_sl ([.ref b])).length) Slot.unset).toArray = ls at hl ⊢
  have hl : lv_has ls 4 [(0, .ref b)] := hl
  refine va_new (ci := 5) (fs := [.null, .null, .null, .null, .null, .null, .null, .null, .null, .null, .long 0]) (C := cBri) (T := tBri) (N := 11) hx hb hg uw_Bri yBri ut_Bri hown (hg _ (gw_t 10 (by decide +kernel) (by decide +kernel))) (hg _ nc_Bri.2.2.2.1) (hg _ nc_Bri.2.2.2.2) hK hP hD hS hA rfl (by decide) (Nat.le_of_ble_eq_true rfl) (Nat.le_of_ble_eq_true rfl) dl_0 (fun q0 H1 hP1 hD1 hS1 => ?_)
  refine lv_dup hx hb dl_3 rfl ?_
  refine w_init (ws0 := []) (va_runI (As := []) (rest := [.ref q0]) ⟨hx, hb, hml, hown, hg⟩ (ci_Bri D (cI, (cZ, cP)) q0 l H1.size) (cwI 0 hg (gw_good (fun w hw5 => (List.mem_cons.mp hw5).elim (fun e5 => by rw [e5]; exact mi_Bri.1) (fun h5 => h5))) rfl rfl rfl (hg _ mi_Bri.2.1) (hg _ (gw_t 12 (by decide +kernel) (by decide +kernel))) (hg _ mi_Bri.2.2.1) rfl mi_Bri.2.2.2.2 ⟨(Nat.le_of_ble_eq_true rfl), (Nat.le_of_ble_eq_true rfl)⟩) ⟨PN_blind D (cI, (cZ, cP)) _ q0 H1.size _, fun U hU hW => ⟨rfl, by rw [hU], by rw [hU]; exact hP1, va_K.moved hW.alike hK, hN.warm hW, va_AO.moved hW.alike hAO⟩⟩ rfl rfl hl.1 rfl (lv_room (Nat.le_of_ble_eq_true rfl)) dl_4 ⟨(Nat.le_of_ble_eq_true rfl), (Nat.le_of_ble_eq_true rfl)⟩) hP1 hD1 hS1 hA (fun w1 H2 locs2 hp2 hP2 hD2 hS2 => ?_)
  obtain ⟨t, la, g, k, s1, nw, w1, s2, tr, w2, s3, ac, bb, f, P, fi, i1, i2, i3, sl, f2, p1, w3, s4, p2, w4, s5, ik, cr, ga, ⟨hPl, hf, hf2a, hf2b⟩, rfl⟩ := hp2
  refine lv_astore_n (lv' := [(1, .ref q0), (0, .ref b)]) hx hb dl_7 rfl hl (by decide) rfl (fun ls2 hl2 => ?_)
  refine va_new (ci := 6) (fs := [.int 0, .null, .int 0, .int 0, .int 0, .null, .int 0, .null, .int 0, .null, .int 0, .null, .null, .null, .null, .int 0, .null, .null, .int 0, .null, .null, .null, .long 0, .int 0, .int 0, .int 0, .int 0, .int 0, .int 0, .null, .null]) (C := cMod) (T := tMod) (N := 31) hx hb hg uw_Mod yMod ut_Mod hown (hg _ (gw_t 534 (by decide +kernel) (by decide +kernel))) (hg _ nc_Mod.2.2.2.1) (hg _ nc_Mod.2.2.2.2) hK hP2 hD2 hS2 hA rfl (by decide) (Nat.le_of_ble_eq_true rfl) (Nat.le_of_ble_eq_true rfl) dl_8 (fun q70 H3 hP3 hD3 hS3 => ?_)
  refine lv_dup hx hb dl_11 rfl ?_
  have hP3' : va_P D classes [(q70, .inr (6, [.int 0, .null, .int 0, .int 0, .int 0, .null, .int 0, .null, .int 0, .null, .int 0, .null, .null, .null, .null, .int 0, .null, .null, .int 0, .null, .null, .null, .long 0, .int 0, .int 0, .int 0, .int 0, .int 0, .int 0, .null, .null]))] H3 := fun k x hx => by
    have hk := (List.getElem?_eq_some_iff.mp hx).1
    have hk0 : k = 0 := by simpa using hk
    subst hk0
    cases hx
    exact hP3 ([] ++ brL (cI, (cZ, cP)) q0 t la g k s1 nw w1 s2 tr w2 s3 ac bb f P fi i1 i2 i3 sl f2 p1 w3 s4 p2 w4 s5 ik cr ga).length _ (by simp)
  refine w_init (ws0 := [] ++ brL (cI, (cZ, cP)) q0 t la g k s1 nw w1 s2 tr w2 s3 ac bb f P fi i1 i2 i3 sl f2 p1 w3 s4 p2 w4 s5 ik cr ga) (va_runI (As := []) (rest := [.ref q70]) ⟨hx, hb, hml, hown, hg⟩ (ci_Mod D (cI, (cZ, cP)) q70 l H3.size) (cwI 0 hg (gw_good (fun w hw5 => (List.mem_cons.mp hw5).elim (fun e5 => by rw [e5]; exact mi_Mod.1) (fun h5 => h5))) rfl rfl rfl (hg _ mi_Mod.2.1) (hg _ (gw_t 536 (by decide +kernel) (by decide +kernel))) (hg _ mi_Mod.2.2.1) rfl mi_Mod.2.2.2.2 ⟨(Nat.le_of_ble_eq_true rfl), (Nat.le_of_ble_eq_true rfl)⟩) ⟨PN_blind D (cI, (cZ, cP)) _ q70 H3.size _, fun U hU hW => ⟨rfl, by rw [hU], by rw [hU]; exact hP3', va_K.moved hW.alike hK, hN.warm hW, va_AO.moved hW.alike hAO⟩⟩ rfl rfl hl2.1 rfl (lv_room (Nat.le_of_ble_eq_true rfl)) dl_12 ⟨(Nat.le_of_ble_eq_true rfl), (Nat.le_of_ble_eq_true rfl)⟩) hP3 hD3 hS3 hA (fun w2x H4 locs4 hp4 hP4 hD4 hS4 => ?_)
  obtain ⟨a1, a2, a3, a4, a5, a6, a7, a8, a9, a10, a11, a12, a13, a14, a15, rfl⟩ := hp4
  refine lv_astore_n (lv' := [(2, .ref q70), (1, .ref q0), (0, .ref b)]) hx hb dl_15 rfl hl2 (by decide) rfl (fun ls3 hl3 => ?_)
  refine lv_iconst (v := 0) hx hb dl_16 (by decide) ?_
  refine lv_istore_n (lv' := [(3, .int 0), (2, .ref q70), (1, .ref q0), (0, .ref b)]) hx hb dl_17 rfl hl3 (by decide) rfl (fun ls4 hl4 => ?_)
  obtain ⟨u0, u1, u2, u3, u4, u5, u6, u7, u8, u9, u10, u11, u12, u13, rfl⟩ := len14 P hPl
  obtain ⟨v, hv⟩ : ∃ v : Nat → Nat, v = fun c => [q0, t, la, g, k, s1, ac, bb, fi, i1, i2, i3, sl, ik, cr, ga, nw, w1, s2, tr, w2, s3, p1, w3, s4, p2, w4, s5, u0.1, u0.2.1, u0.2.2, u1.1, u1.2.1, u1.2.2, u2.1, u2.2.1, u2.2.2, u3.1, u3.2.1, u3.2.2, u4.1, u4.2.1, u4.2.2, u5.1, u5.2.1, u5.2.2, u6.1, u6.2.1, u6.2.2, u7.1, u7.2.1, u7.2.2, u8.1, u8.2.1, u8.2.2, u9.1, u9.2.1, u9.2.2, u10.1, u10.2.1, u10.2.2, u11.1, u11.2.1, u11.2.2, u12.1, u12.2.1, u12.2.2, u13.1, u13.2.1, u13.2.2, q70, a1, a2, a3, a4, a5, a6, a7, a8, a9, a10, a11, a12, a13, a14, a15].getD c 0 := ⟨_, rfl⟩
  have hWL : ([] ++ brL (cI, (cZ, cP)) q0 t la g k s1 nw w1 s2 tr w2 s3 ac bb f [u0, u1, u2, u3, u4, u5, u6, u7, u8, u9, u10, u11, u12, u13] fi i1 i2 i3 sl f2 p1 w3 s4 p2 w4 s5 ik cr ga) ++ moL (cI, (cZ, cP)) q70 a1 a2 a3 a4 a5 a6 a7 a8 a9 a10 a11 a12 a13 a14 a15 = WL (cI, (cZ, cP)) v f f2 := by rw [hv]; rfl
  rw [hWL] at hP4 hD4
  have hf14 : ∀ j, j < 14 → f j = some (v (28 + 3 * j)) := by
    intro j hj
    rw [hv]
    match j, hj with
    | 0, _ => exact hf 0 (by decide)
    | 1, _ => exact hf 1 (by decide)
    | 2, _ => exact hf 2 (by decide)
    | 3, _ => exact hf 3 (by decide)
    | 4, _ => exact hf 4 (by decide)
    | 5, _ => exact hf 5 (by decide)
    | 6, _ => exact hf 6 (by decide)
    | 7, _ => exact hf 7 (by decide)
    | 8, _ => exact hf 8 (by decide)
    | 9, _ => exact hf 9 (by decide)
    | 10, _ => exact hf 10 (by decide)
    | 11, _ => exact hf 11 (by decide)
    | 12, _ => exact hf 12 (by decide)
    | 13, _ => exact hf 13 (by decide)
    | k + 14, hj => exact absurd hj (by omega)
  have hf22 : ∀ j, j < 2 → f2 j = some (v (22 + 3 * j)) := by
    intro j hj
    rw [hv]
    match j, hj with
    | 0, _ => exact hf2a
    | 1, _ => exact hf2b
    | k + 2, hj => exact absurd hj (by omega)
  have v0 : v 0 = q0 := by rw [hv]; rfl
  have v70 : v 70 = q70 := by rw [hv]; rfl
  clear hv
  obtain ⟨ts, hts1, hts2, hts3⟩ : ∃ ts : Nat → Nat, ts 1 = t1 ∧ ts 2 = t2 ∧ ts 3 = b := ⟨fun n => if n = 1 then t1 else if n = 2 then t2 else b, rfl, rfl, rfl⟩
  have hOK : kOK (mkK D (cI, (cZ, cP)) v (fun q : Nat => s.heap.size ≤ q) ts) := wl_K hf14 hf22 hD4
  have hkB : kB (mkK D (cI, (cZ, cP)) v (fun q : Nat => s.heap.size ≤ q) ts) b s.heap.size := ⟨hOK, hts3, hbl, rfl⟩
  have hPf : va_P (kD (mkK D (cI, (cZ, cP)) v (fun q : Nat => s.heap.size ≤ q) ts)) classes (wsOf (mkK D (cI, (cZ, cP)) v (fun q : Nat => s.heap.size ≤ q) ts) X00 Y00) H4 := wl_P hf14 hf22 hP4
  have hSt : kSt (mkK D (cI, (cZ, cP)) v (fun q : Nat => s.heap.size ≤ q) ts) s := by
    show va_Z "BrinePans" "FACTORIALS" "[I" (.ref (ts 1)) _ s s.heap ∧ va_T .int (ts 1) 7 _ _ s s.heap ∧ va_Z "BrinePans" "THOUSANDS" "[J" (.ref (ts 2)) _ s s.heap ∧ va_T .long (ts 2) 4 _ _ s s.heap
    rw [hts1, hts2]
    exact ⟨hZ1, hT1, hZ2, hT2⟩
  have hCx : Cx (mkK D (cI, (cZ, cP)) v (fun q : Nat => s.heap.size ≤ q) ts) "BrinePansLaw" code 4 ret p s m #[Value.ref b] meth c := ⟨hx, hb, hr, hml, hown, hg, hlocks, hK, hOK, hN, hSt⟩
  have hlv : lvs (mkK D (cI, (cZ, cP)) v (fun q : Nat => s.heap.size ≤ q) ts) ls4 4 (lawL 0) := by
    refine lv_mono hl4 (fun q hq => ?_)
    have hq2 : q ∈ [(0, Value.ref (ts 3)), (1, Value.ref (v 0)), (2, Value.ref (v 70)), (3, Value.int (nI 0))] := hq
    rw [hts3, v0, v70] at hq2
    simp only [List.mem_cons, List.not_mem_nil, or_false] at hq2 ⊢
    rcases hq2 with h | h | h | h
    · exact Or.inr (Or.inr (Or.inr h))
    · exact Or.inr (Or.inr (Or.inl h))
    · exact Or.inr (Or.inl h)
    · exact Or.inl h
  have J := law_loop (xs := xs) hkB hL 600 0 0 X00 Y00 rfl (by omega) (by omega) rel_0
  have w := J o0 rfl p l e s m #[Value.ref b] below meth c H4 locs4 ls4 hCx hPf hS4 hlv
  intro T hT Xs
  obtain ⟨tt, e1, e2⟩ := w T hT Xs
  exact ⟨tt, e1, e2 ⟨rfl, hX, hbl, rfl⟩⟩
