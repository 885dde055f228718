/-! Acts(), BrinePans() -/
def pls (z : TYs) (g : Nat) (P : List (Nat × (Nat × Nat))) : va_W := P.flatMap (fun t => paL z g t.1 t.2.1 t.2.2)
def rfE (z : TYs) (n : Nat) (f : Nat → Option Nat) : va_E := .inl (z.2.2, n, .inr (.inr (.inr (.inr f))))
def acL (z : TYs) (g q b : Nat) (f : Nat → Option Nat) (P : List (Nat × (Nat × Nat))) : va_W := (q, .inr (0, [.ref b, .int 0, .int 0])) :: (b, rfE z 14 f) :: pls z g P
abbrev rm_Act : Room := { frames := 2, cells := 43, slots := 266, locals := 33 }
def PostA (z : TYs) (g q : Nat) : va_W → Prop := fun ws => ∃ b f P, P.length = 14 ∧ (∀ j, j < 14 → f j = (P[j]?).map (fun t => t.1)) ∧ ws = acL z g q b f P
theorem lo_Act (D : va_G) (z : TYs) (q g b sz : Nat) : ∀ (n i : Nat) (P : List (Nat × (Nat × Nat))) (f : Nat → Option Nat), i + n = 14 → P.length = i → (∀ j, j < i → f j = (P[j]?).map (fun t => t.1)) → JN D z "BrinePans$Acts" prog_2_method_1_code 3 rm_Act q sz 43 266 (PostA z g q) (1 + 3 * i) (14 + 18 * i) 25 [(2, .int (nI i)), (0, .ref q), (1, .ref g)] [] (acL z g q b f P) := by
  intro n
  induction n with
  | zero =>
    intro i P f h hP hf
    have e : i = 14 := by omega
    subst e
    refine n_iload di_Act_25 rfl (List.mem_of_getElem? (i := 0) rfl) ?_
    refine n_bipush (v := 14) di_Act_26 (by decide) ?_
    refine n_icmp_ge (tgt := 51) di_Act_28 (by decide) (fun _ => ?_) (fun hc => absurd (show (14 : Int32) ≤ nI 14 by decide) hc)
    exact n_ret di_Act_51 ⟨b, f, P, hP, hf, rfl⟩
  | succ n ih =>
    intro i P f h hP hf
    have hi : i < 14 := by omega
    refine n_iload di_Act_25 rfl (List.mem_of_getElem? (i := 0) rfl) ?_
    refine n_bipush (v := 14) di_Act_26 (by decide) ?_
    refine n_icmp_ge (tgt := 51) di_Act_28 (by decide) (fun hc => absurd hc (show ¬ (14 : Int32) ≤ nI i from nI_ge (b := 14) hi (by omega))) (fun _ => ?_)
    refine n_aload di_Act_31 rfl (List.mem_of_getElem? (i := 1) rfl) ?_
    refine n_get (v := .ref b) 0 di_Act_32 fk_Act_11 rfl rfl ?_
    refine n_iload di_Act_35 rfl (List.mem_of_getElem? (i := 0) rfl) ?_
    refine n_new (fs := [.null, .null, .null, .int 0, .int 0, .int 0]) di_Act_36 (gw_t 96 (by decide +kernel) (by decide +kernel)) nc_Pan (by decide) (show 1 + 3 * i + 1 ≤ 43 by omega) (show 14 + 18 * i + 6 ≤ 266 by omega) (fun a => ?_)
    refine n_dup di_Act_39 rfl ?_
    refine n_aload di_Act_40 rfl (List.mem_of_getElem? (i := 2) rfl) ?_
    refine n_call (host := "BrinePans") (S := [.ref a, .int (nI i), .ref b]) [.ref g] di_Act_41 mi_Pan (nw_t 98 (by decide +kernel) (by decide +kernel)) rfl rfl (ci_Pan D z a g) ⟨rfl, rfl⟩ ⟨(Nat.le_of_ble_eq_true rfl), (Nat.le_of_ble_eq_true rfl)⟩ ⟨show 1 + 3 * i + 1 + 2 ≤ 43 by omega, show 14 + 18 * i + 6 + 12 ≤ 266 by omega⟩ (Nat.le_of_ble_eq_true rfl) (fun w1 hw1 => ?_)
    obtain ⟨w, s, rfl⟩ := hw1
    refine n_aast (i := nI i) 1 (acL z g q b f P).length di_Act_44 rfl (by simp [paL]; rfl) (vp_in_nI hi (by omega)) ?_
    refine n_to (ws' := acL z g q b (va_up f i (some a)) (P ++ [(a, w, s)])) (by rw [cl_nI (by omega)]; simp [acL, pls, rfE]) ?_
    refine n_iinc (k := 0) (v := nI (i + 1)) di_Act_45 rfl (by rw [← nI_up]; rfl) (by decide) rfl ?_
    refine n_goto (tgt := 25) di_Act_48 (by decide) ?_
    have e := ih (i + 1) (P ++ [(a, w, s)]) (va_up f i (some a)) (by omega) (by rw [List.length_append, hP]; rfl) (by
      intro j hj
      by_cases hji : j = i
      · subst hji
        rw [va_up_self, List.getElem?_append_right (by omega), hP, Nat.sub_self]
        rfl
      · rw [va_up_ne _ _ hji, List.getElem?_append_left (by omega)]
        exact hf j (by omega))
    rw [show 1 + 3 * (i + 1) = 1 + 3 * i + 1 + 2 by omega, show 14 + 18 * (i + 1) = 14 + 18 * i + 6 + 12 by omega] at e
    exact e
theorem ci_Act (D : va_G) (z : TYs) (q g : Nat) : CI D z y_Act_init prog_2_method_1_code 3 rm_Act 43 266 [.ref q, .ref g] q (.inr (0, [.null, .int 0, .int 0])) (PostA z g q) := by
  refine ci_of (Lv := [(0, .ref q), (1, .ref g)]) (by decide) rfl rfl (Nat.le_of_ble_eq_true rfl) (fun sz => ?_)
  show JN D z "BrinePans$Acts" _ _ _ _ _ _ _ _ _ _ _ _ _ _
  refine n_aload di_Act_0 rfl (List.mem_of_getElem? (i := 0) rfl) ?_
  refine n_obj di_Act_1 (gw_t 95 (by decide +kernel) (by decide +kernel)) ⟨(Nat.le_of_ble_eq_true rfl), (Nat.le_of_ble_eq_true rfl)⟩ ?_
  refine n_aload di_Act_4 rfl (List.mem_of_getElem? (i := 0) rfl) ?_
  refine n_bipush (v := 14) di_Act_5 (by decide) ?_
  refine n_newQ (N := 14) di_Act_7 (gw_t 96 (by decide +kernel) (by decide +kernel)) (by decide) (by decide) (Nat.le_of_ble_eq_true rfl) (Nat.le_of_ble_eq_true rfl) (Nat.le_of_ble_eq_true rfl) (fun b => ?_)
  refine n_to (ws' := [(q, .inr (0, [.null, .int 0, .int 0])), (b, rfE z 14 (fun _ => none))]) rfl ?_
  refine n_putF 0 di_Act_10 ff_Act_11 rfl rfl rfl (Nat.le_of_ble_eq_true rfl) ?_
  refine n_to (ws' := [(q, .inr (0, [.ref b, .int 0, .int 0])), (b, rfE z 14 (fun _ => none))]) rfl ?_
  refine n_aload di_Act_13 rfl (List.mem_of_getElem? (i := 0) rfl) ?_
  refine n_iconst (v := 0) di_Act_14 (by decide) ?_
  refine n_put 0 di_Act_15 fp_Act_17 rfl rfl rfl (Nat.le_of_ble_eq_true rfl) ?_
  refine n_aload di_Act_18 rfl (List.mem_of_getElem? (i := 0) rfl) ?_
  refine n_iconst (v := 0) di_Act_19 (by decide) ?_
  refine n_put 0 di_Act_20 fp_Act_21 rfl rfl rfl (Nat.le_of_ble_eq_true rfl) ?_
  refine n_iconst (v := 0) di_Act_23 (by decide) ?_
  refine n_istore di_Act_24 rfl (by decide) rfl ?_
  exact lo_Act D z q g b sz 14 0 [] (fun _ => none) rfl rfl (fun j hj => absurd hj (by omega))
theorem at_mid {α : Type} (x y : α) (A B : List α) : (x :: ((A ++ [y]) ++ B))[1 + A.length]? = some y := by
  rw [Nat.add_comm, List.getElem?_cons_succ, List.append_assoc, List.getElem?_append_right (Nat.le_refl _), Nat.sub_self]
  rfl
theorem set_mid {α : Type} (x y y' : α) (A B : List α) : (x :: ((A ++ [y]) ++ B)).set (1 + A.length) y' = x :: ((A ++ [y']) ++ B) := by
  rw [Nat.add_comm, List.set_cons_succ, List.append_assoc, List.set_append_right _ _ (Nat.le_refl _), Nat.sub_self, List.append_assoc]
  rfl
theorem at_end {α : Type} (x y : α) (A B : List α) : (x :: (A ++ (y :: B)))[1 + A.length]? = some y := by
  rw [Nat.add_comm, List.getElem?_cons_succ, List.getElem?_append_right (Nat.le_refl _), Nat.sub_self]
  rfl

def brL (z : TYs) (q : Nat) (t la g k s nw w1 s1 tr w2 s2 ac b : Nat) (f : Nat → Option Nat) (P : List (Nat × (Nat × Nat))) (fi i1 i2 i3 sl : Nat) (f2 : Nat → Option Nat) (p1 w3 s3 p2 w4 s4 ik cr ga : Nat) : va_W := (q, .inr (5, [.ref t, .ref g, .ref nw, .ref tr, .ref ac, .ref fi, .ref sl, .ref ik, .ref cr, .ref ga, .long 0])) :: (((((((((((([] ++ txL z t la) ++ grL z g k s) ++ paL z g nw w1 s1) ++ paL z g tr w2 s2) ++ acL z g ac b f P) ++ fiL z fi i1 i2 i3) ++ [(sl, rfE z 2 f2)]) ++ paL z g p1 w3 s3) ++ paL z g p2 w4 s4) ++ [(ik, .inl (z.2.1, 2, .inl (fun _ => 0)))]) ++ [(cr, .inl (z.1, 64, .inl (fun _ => 0)))]) ++ [(ga, .inl (z.1, 8, .inl (fun _ => 0)))])
abbrev rm_Bri : Room := { frames := 3, cells := 69, slots := 492, locals := 55 }
def PostB (z : TYs) (q : Nat) : va_W → Prop := fun ws => ∃ t la g k s nw w1 s1 tr w2 s2 ac b f P fi i1 i2 i3 sl f2 p1 w3 s3 p2 w4 s4 ik cr ga, (P.length = 14 ∧ (∀ j, j < 14 → f j = (P[j]?).map (fun t => t.1)) ∧ f2 0 = some p1 ∧ f2 1 = some p2) ∧ ws = brL z q t la g k s nw w1 s1 tr w2 s2 ac b f P fi i1 i2 i3 sl f2 p1 w3 s3 p2 w4 s4 ik cr ga
theorem ci_Bri (D : va_G) (z : TYs) (q : Nat) : CI D z y_Bri_init prog_1_method_1_code 2 rm_Bri 69 492 [.ref q] q (.inr (5, [.null, .null, .null, .null, .null, .null, .null, .null, .null, .null, .long 0])) (PostB z q) := by
  refine ci_of (Lv := [(0, .ref q)]) (by decide) rfl rfl (Nat.le_of_ble_eq_true rfl) (fun sz => ?_)
  show JN D z "BrinePans" _ _ _ _ _ _ _ _ _ _ _ _ _ _
  refine n_aload di_Bri_0 rfl (List.mem_of_getElem? (i := 0) rfl) ?_
  refine n_obj di_Bri_1 (gw_t 15 (by decide +kernel) (by decide +kernel)) ⟨(Nat.le_of_ble_eq_true rfl), (Nat.le_of_ble_eq_true rfl)⟩ ?_
  refine n_to (ws' := (q, .inr (5, [.null, .null, .null, .null, .null, .null, .null, .null, .null, .null, .long 0])) :: []) rfl ?_
  refine n_aload di_Bri_4 rfl (List.mem_of_getElem? (i := 0) rfl) ?_
  refine n_new (fs := [.null, .int 0]) di_Bri_5 (gw_t 18 (by decide +kernel) (by decide +kernel)) nc_Txt (by decide) (Nat.le_of_ble_eq_true rfl) (Nat.le_of_ble_eq_true rfl) (fun t => ?_)
  refine n_dup di_Bri_8 rfl ?_
  refine n_call (host := "BrinePans") (S := [.ref t, .ref q]) [] di_Bri_9 mi_Txt (nw_t 20 (by decide +kernel) (by decide +kernel)) rfl rfl (ci_Txt D z t) ⟨rfl, rfl⟩ ⟨(Nat.le_of_ble_eq_true rfl), (Nat.le_of_ble_eq_true rfl)⟩ ⟨(Nat.le_of_ble_eq_true rfl), (Nat.le_of_ble_eq_true rfl)⟩ (Nat.le_of_ble_eq_true rfl) (fun w hw => ?_)
  obtain ⟨la, rfl⟩ := hw
  refine n_to (ws' := (q, .inr (5, [.null, .null, .null, .null, .null, .null, .null, .null, .null, .null, .long 0])) :: ([] ++ txL z t la)) rfl ?_
  refine n_putF 0 di_Bri_12 ff_Bri_10 rfl rfl rfl (Nat.le_of_ble_eq_true rfl) ?_
  refine n_to (ws' := (q, .inr (5, [.ref t, .null, .null, .null, .null, .null, .null, .null, .null, .null, .long 0])) :: ([] ++ txL z t la)) rfl ?_
  refine n_aload di_Bri_15 rfl (List.mem_of_getElem? (i := 0) rfl) ?_
  refine n_new (fs := [.null, .null, .int 0, .int 0]) di_Bri_16 (gw_t 33 (by decide +kernel) (by decide +kernel)) nc_Gro (by decide) (Nat.le_of_ble_eq_true rfl) (Nat.le_of_ble_eq_true rfl) (fun g => ?_)
  refine n_dup di_Bri_19 rfl ?_
  refine n_call (host := "BrinePans") (S := [.ref g, .ref q]) [] di_Bri_20 mi_Gro (nw_t 35 (by decide +kernel) (by decide +kernel)) rfl rfl (ci_Gro D z g) ⟨rfl, rfl⟩ ⟨(Nat.le_of_ble_eq_true rfl), (Nat.le_of_ble_eq_true rfl)⟩ ⟨(Nat.le_of_ble_eq_true rfl), (Nat.le_of_ble_eq_true rfl)⟩ (Nat.le_of_ble_eq_true rfl) (fun w hw => ?_)
  obtain ⟨k, s, rfl⟩ := hw
  refine n_to (ws' := (q, .inr (5, [.ref t, .null, .null, .null, .null, .null, .null, .null, .null, .null, .long 0])) :: (([] ++ txL z t la) ++ grL z g k s)) rfl ?_
  refine n_putF 0 di_Bri_23 ff_Bri_19 rfl rfl rfl (Nat.le_of_ble_eq_true rfl) ?_
  refine n_to (ws' := (q, .inr (5, [.ref t, .ref g, .null, .null, .null, .null, .null, .null, .null, .null, .long 0])) :: (([] ++ txL z t la) ++ grL z g k s)) rfl ?_
  refine n_aload di_Bri_26 rfl (List.mem_of_getElem? (i := 0) rfl) ?_
  refine n_new (fs := [.null, .null, .null, .int 0, .int 0, .int 0]) di_Bri_27 (gw_t 58 (by decide +kernel) (by decide +kernel)) nc_Pan (by decide) (Nat.le_of_ble_eq_true rfl) (Nat.le_of_ble_eq_true rfl) (fun nw => ?_)
  refine n_dup di_Bri_30 rfl ?_
  refine n_aload di_Bri_31 rfl (List.mem_of_getElem? (i := 0) rfl) ?_
  refine n_get (v := .ref g) 0 di_Bri_32 fk_Bri_19 rfl rfl ?_
  refine n_call (host := "BrinePans") (S := [.ref nw, .ref q]) [.ref g] di_Bri_35 mi_Pan (nw_t 60 (by decide +kernel) (by decide +kernel)) rfl rfl (ci_Pan D z nw g) ⟨rfl, rfl⟩ ⟨(Nat.le_of_ble_eq_true rfl), (Nat.le_of_ble_eq_true rfl)⟩ ⟨(Nat.le_of_ble_eq_true rfl), (Nat.le_of_ble_eq_true rfl)⟩ (Nat.le_of_ble_eq_true rfl) (fun w hw => ?_)
  obtain ⟨w1, s1, rfl⟩ := hw
  refine n_to (ws' := (q, .inr (5, [.ref t, .ref g, .null, .null, .null, .null, .null, .null, .null, .null, .long 0])) :: ((([] ++ txL z t la) ++ grL z g k s) ++ paL z g nw w1 s1)) rfl ?_
  refine n_putF 0 di_Bri_38 ff_Bri_28 rfl rfl rfl (Nat.le_of_ble_eq_true rfl) ?_
  refine n_to (ws' := (q, .inr (5, [.ref t, .ref g, .ref nw, .null, .null, .null, .null, .null, .null, .null, .long 0])) :: ((([] ++ txL z t la) ++ grL z g k s) ++ paL z g nw w1 s1)) rfl ?_
  refine n_aload di_Bri_41 rfl (List.mem_of_getElem? (i := 0) rfl) ?_
  refine n_new (fs := [.null, .null, .null, .int 0, .int 0, .int 0]) di_Bri_42 (gw_t 58 (by decide +kernel) (by decide +kernel)) nc_Pan (by decide) (Nat.le_of_ble_eq_true rfl) (Nat.le_of_ble_eq_true rfl) (fun tr => ?_)
  refine n_dup di_Bri_45 rfl ?_
  refine n_aload di_Bri_46 rfl (List.mem_of_getElem? (i := 0) rfl) ?_
  refine n_get (v := .ref g) 0 di_Bri_47 fk_Bri_19 rfl rfl ?_
  refine n_call (host := "BrinePans") (S := [.ref tr, .ref q]) [.ref g] di_Bri_50 mi_Pan (nw_t 60 (by decide +kernel) (by decide +kernel)) rfl rfl (ci_Pan D z tr g) ⟨rfl, rfl⟩ ⟨(Nat.le_of_ble_eq_true rfl), (Nat.le_of_ble_eq_true rfl)⟩ ⟨(Nat.le_of_ble_eq_true rfl), (Nat.le_of_ble_eq_true rfl)⟩ (Nat.le_of_ble_eq_true rfl) (fun w hw => ?_)
  obtain ⟨w2, s2, rfl⟩ := hw
  refine n_to (ws' := (q, .inr (5, [.ref t, .ref g, .ref nw, .null, .null, .null, .null, .null, .null, .null, .long 0])) :: (((([] ++ txL z t la) ++ grL z g k s) ++ paL z g nw w1 s1) ++ paL z g tr w2 s2)) rfl ?_
  refine n_putF 0 di_Bri_53 ff_Bri_32 rfl rfl rfl (Nat.le_of_ble_eq_true rfl) ?_
  refine n_to (ws' := (q, .inr (5, [.ref t, .ref g, .ref nw, .ref tr, .null, .null, .null, .null, .null, .null, .long 0])) :: (((([] ++ txL z t la) ++ grL z g k s) ++ paL z g nw w1 s1) ++ paL z g tr w2 s2)) rfl ?_
  refine n_aload di_Bri_56 rfl (List.mem_of_getElem? (i := 0) rfl) ?_
  refine n_new (fs := [.null, .int 0, .int 0]) di_Bri_57 (gw_t 90 (by decide +kernel) (by decide +kernel)) nc_Act (by decide) (Nat.le_of_ble_eq_true rfl) (Nat.le_of_ble_eq_true rfl) (fun ac => ?_)
  refine n_dup di_Bri_60 rfl ?_
  refine n_aload di_Bri_61 rfl (List.mem_of_getElem? (i := 0) rfl) ?_
  refine n_get (v := .ref g) 0 di_Bri_62 fk_Bri_19 rfl rfl ?_
  refine n_call (host := "BrinePans") (S := [.ref ac, .ref q]) [.ref g] di_Bri_65 mi_Act (nw_t 92 (by decide +kernel) (by decide +kernel)) rfl rfl (ci_Act D z ac g) ⟨rfl, rfl⟩ ⟨(Nat.le_of_ble_eq_true rfl), (Nat.le_of_ble_eq_true rfl)⟩ ⟨(Nat.le_of_ble_eq_true rfl), (Nat.le_of_ble_eq_true rfl)⟩ (Nat.le_of_ble_eq_true rfl) (fun w hw => ?_)
  obtain ⟨b, f, P, hP, hf, rfl⟩ := hw
  refine n_to (ws' := (q, .inr (5, [.ref t, .ref g, .ref nw, .ref tr, .null, .null, .null, .null, .null, .null, .long 0])) :: ((((([] ++ txL z t la) ++ grL z g k s) ++ paL z g nw w1 s1) ++ paL z g tr w2 s2) ++ acL z g ac b f P)) rfl ?_
  refine n_putF 0 di_Bri_68 ff_Bri_38 rfl rfl rfl (Nat.le_of_ble_eq_true rfl) ?_
  refine n_to (ws' := (q, .inr (5, [.ref t, .ref g, .ref nw, .ref tr, .ref ac, .null, .null, .null, .null, .null, .long 0])) :: ((((([] ++ txL z t la) ++ grL z g k s) ++ paL z g nw w1 s1) ++ paL z g tr w2 s2) ++ acL z g ac b f P)) rfl ?_
  refine n_aload di_Bri_71 rfl (List.mem_of_getElem? (i := 0) rfl) ?_
  refine n_new (fs := [.null, .null, .null, .int 0]) di_Bri_72 (gw_t 110 (by decide +kernel) (by decide +kernel)) nc_Fin (by decide) (Nat.le_of_ble_eq_true rfl) (Nat.le_of_ble_eq_true rfl) (fun fi => ?_)
  refine n_dup di_Bri_75 rfl ?_
  refine n_call (host := "BrinePans") (S := [.ref fi, .ref q]) [] di_Bri_76 mi_Fin (nw_t 112 (by decide +kernel) (by decide +kernel)) rfl rfl (ci_Fin D z fi) ⟨rfl, rfl⟩ ⟨(Nat.le_of_ble_eq_true rfl), (Nat.le_of_ble_eq_true rfl)⟩ ⟨(Nat.le_of_ble_eq_true rfl), (Nat.le_of_ble_eq_true rfl)⟩ (Nat.le_of_ble_eq_true rfl) (fun w hw => ?_)
  obtain ⟨i1, i2, i3, rfl⟩ := hw
  refine n_to (ws' := (q, .inr (5, [.ref t, .ref g, .ref nw, .ref tr, .ref ac, .null, .null, .null, .null, .null, .long 0])) :: (((((([] ++ txL z t la) ++ grL z g k s) ++ paL z g nw w1 s1) ++ paL z g tr w2 s2) ++ acL z g ac b f P) ++ fiL z fi i1 i2 i3)) rfl ?_
  refine n_putF 0 di_Bri_79 ff_Bri_45 rfl rfl rfl (Nat.le_of_ble_eq_true rfl) ?_
  refine n_to (ws' := (q, .inr (5, [.ref t, .ref g, .ref nw, .ref tr, .ref ac, .ref fi, .null, .null, .null, .null, .long 0])) :: (((((([] ++ txL z t la) ++ grL z g k s) ++ paL z g nw w1 s1) ++ paL z g tr w2 s2) ++ acL z g ac b f P) ++ fiL z fi i1 i2 i3)) rfl ?_
  obtain ⟨R0, hR0⟩ : ∃ R0, R0 = (((((([] ++ txL z t la) ++ grL z g k s) ++ paL z g nw w1 s1) ++ paL z g tr w2 s2) ++ acL z g ac b f P) ++ fiL z fi i1 i2 i3) := ⟨_, rfl⟩
  refine n_to (ws' := (q, .inr (5, [.ref t, .ref g, .ref nw, .ref tr, .ref ac, .ref fi, .null, .null, .null, .null, .long 0])) :: R0) (by rw [hR0]) ?_
  refine n_aload di_Bri_82 rfl (List.mem_of_getElem? (i := 0) rfl) ?_
  refine n_iconst (v := 2) di_Bri_83 (by decide) ?_
  refine n_newQ (N := 2) di_Bri_84 (gw_t 58 (by decide +kernel) (by decide +kernel)) (by decide) (by decide) (Nat.le_of_ble_eq_true rfl) (Nat.le_of_ble_eq_true rfl) (Nat.le_of_ble_eq_true rfl) (fun sl => ?_)
  refine n_to (ws' := (q, .inr (5, [.ref t, .ref g, .ref nw, .ref tr, .ref ac, .ref fi, .null, .null, .null, .null, .long 0])) :: (R0 ++ [(sl, rfE z 2 (fun _ => none))])) rfl ?_
  refine n_putF 0 di_Bri_87 ff_Bri_49 rfl rfl rfl (Nat.le_of_ble_eq_true rfl) ?_
  refine n_to (ws' := (q, .inr (5, [.ref t, .ref g, .ref nw, .ref tr, .ref ac, .ref fi, .ref sl, .null, .null, .null, .long 0])) :: (R0 ++ [(sl, rfE z 2 (fun _ => none))])) rfl ?_
  refine n_iconst (v := 0) di_Bri_90 (by decide) ?_
  refine n_istore di_Bri_91 rfl (by decide) rfl ?_
  refine n_lvs (Lv' := [(1, .int 0), (0, .ref q)]) (fun _ h => h) ?_
  refine n_iload di_Bri_92 rfl (List.mem_of_getElem? (i := 0) rfl) ?_
  refine n_iconst (v := 2) di_Bri_93 (by decide) ?_
  refine n_icmp_ge (tgt := 120) di_Bri_94 (by decide) (fun hc => absurd hc (by decide)) (fun _ => ?_)
  refine n_aload di_Bri_97 rfl (List.mem_of_getElem? (i := 1) rfl) ?_
  refine n_get (v := .ref sl) 0 di_Bri_98 fk_Bri_49 rfl rfl ?_
  refine n_iload di_Bri_101 rfl (List.mem_of_getElem? (i := 0) rfl) ?_
  refine n_new (fs := [.null, .null, .null, .int 0, .int 0, .int 0]) di_Bri_102 (gw_t 58 (by decide +kernel) (by decide +kernel)) nc_Pan (by decide) (Nat.le_of_ble_eq_true rfl) (Nat.le_of_ble_eq_true rfl) (fun p1 => ?_)
  refine n_dup di_Bri_105 rfl ?_
  refine n_aload di_Bri_106 rfl (List.mem_of_getElem? (i := 1) rfl) ?_
  refine n_get (v := .ref g) 0 di_Bri_107 fk_Bri_19 rfl rfl ?_
  refine n_call (host := "BrinePans") (S := [.ref p1, .int 0, .ref sl]) [.ref g] di_Bri_110 mi_Pan (nw_t 60 (by decide +kernel) (by decide +kernel)) rfl rfl (ci_Pan D z p1 g) ⟨rfl, rfl⟩ ⟨(Nat.le_of_ble_eq_true rfl), (Nat.le_of_ble_eq_true rfl)⟩ ⟨(Nat.le_of_ble_eq_true rfl), (Nat.le_of_ble_eq_true rfl)⟩ (Nat.le_of_ble_eq_true rfl) (fun w hw => ?_)
  obtain ⟨w3, s3, rfl⟩ := hw
  refine n_to (ws' := (q, .inr (5, [.ref t, .ref g, .ref nw, .ref tr, .ref ac, .ref fi, .ref sl, .null, .null, .null, .long 0])) :: ((R0 ++ [(sl, rfE z 2 (fun _ => none))]) ++ paL z g p1 w3 s3)) rfl ?_
  refine n_aast (i := 0) (1 + R0.length) (1 + (R0 ++ [(sl, rfE z 2 (fun _ => none))]).length) di_Bri_113 (at_mid _ _ _ _) (at_end _ _ _ _) (vp_in_nI (n := 0) (N := 2) (by decide) (by decide)) ?_
  refine n_to (ws' := (q, .inr (5, [.ref t, .ref g, .ref nw, .ref tr, .ref ac, .ref fi, .ref sl, .null, .null, .null, .long 0])) :: ((R0 ++ [(sl, rfE z 2 (va_up (fun _ => none) 0 (some p1)))]) ++ paL z g p1 w3 s3)) (set_mid _ _ _ _ _) ?_
  refine n_iinc (k := 0) (v := 1) di_Bri_114 rfl (by decide) (by decide) rfl ?_
  refine n_goto (tgt := 92) di_Bri_117 (by decide) ?_
  refine n_lvs (Lv' := [(1, .int 1), (0, .ref q)]) (fun _ h => h) ?_
  refine n_iload di_Bri_92 rfl (List.mem_of_getElem? (i := 0) rfl) ?_
  refine n_iconst (v := 2) di_Bri_93 (by decide) ?_
  refine n_icmp_ge (tgt := 120) di_Bri_94 (by decide) (fun hc => absurd hc (by decide)) (fun _ => ?_)
  refine n_aload di_Bri_97 rfl (List.mem_of_getElem? (i := 1) rfl) ?_
  refine n_get (v := .ref sl) 0 di_Bri_98 fk_Bri_49 rfl rfl ?_
  refine n_iload di_Bri_101 rfl (List.mem_of_getElem? (i := 0) rfl) ?_
  refine n_new (fs := [.null, .null, .null, .int 0, .int 0, .int 0]) di_Bri_102 (gw_t 58 (by decide +kernel) (by decide +kernel)) nc_Pan (by decide) (Nat.le_of_ble_eq_true rfl) (Nat.le_of_ble_eq_true rfl) (fun p2 => ?_)
  refine n_dup di_Bri_105 rfl ?_
  refine n_aload di_Bri_106 rfl (List.mem_of_getElem? (i := 1) rfl) ?_
  refine n_get (v := .ref g) 0 di_Bri_107 fk_Bri_19 rfl rfl ?_
  refine n_call (host := "BrinePans") (S := [.ref p2, .int 1, .ref sl]) [.ref g] di_Bri_110 mi_Pan (nw_t 60 (by decide +kernel) (by decide +kernel)) rfl rfl (ci_Pan D z p2 g) ⟨rfl, rfl⟩ ⟨(Nat.le_of_ble_eq_true rfl), (Nat.le_of_ble_eq_true rfl)⟩ ⟨(Nat.le_of_ble_eq_true rfl), (Nat.le_of_ble_eq_true rfl)⟩ (Nat.le_of_ble_eq_true rfl) (fun w hw => ?_)
  obtain ⟨w4, s4, rfl⟩ := hw
  refine n_to (ws' := (q, .inr (5, [.ref t, .ref g, .ref nw, .ref tr, .ref ac, .ref fi, .ref sl, .null, .null, .null, .long 0])) :: (((R0 ++ [(sl, rfE z 2 (va_up (fun _ => none) 0 (some p1)))]) ++ paL z g p1 w3 s3) ++ paL z g p2 w4 s4)) rfl ?_
  refine n_aast (i := 1) (1 + R0.length) (1 + ((R0 ++ [(sl, rfE z 2 (va_up (fun _ => none) 0 (some p1)))]) ++ paL z g p1 w3 s3).length) di_Bri_113 (by rw [List.append_assoc]; exact at_mid _ _ _ _) (at_end _ _ _ _) (vp_in_nI (n := 1) (N := 2) (by decide) (by decide)) ?_
  obtain ⟨f2, hf2⟩ : ∃ f2, f2 = va_up (va_up (fun _ => none) 0 (some p1)) 1 (some p2) := ⟨_, rfl⟩
  refine n_to (ws' := (q, .inr (5, [.ref t, .ref g, .ref nw, .ref tr, .ref ac, .ref fi, .ref sl, .null, .null, .null, .long 0])) :: (((R0 ++ [(sl, rfE z 2 f2)]) ++ paL z g p1 w3 s3) ++ paL z g p2 w4 s4)) (by rw [hf2, List.append_assoc (R0 ++ _), List.append_assoc (R0 ++ _)]; exact set_mid _ _ _ _ _) ?_
  refine n_iinc (k := 0) (v := 2) di_Bri_114 rfl (by decide) (by decide) rfl ?_
  refine n_goto (tgt := 92) di_Bri_117 (by decide) ?_
  refine n_lvs (Lv' := [(1, .int 2), (0, .ref q)]) (fun _ h => h) ?_
  refine n_iload di_Bri_92 rfl (List.mem_of_getElem? (i := 0) rfl) ?_
  refine n_iconst (v := 2) di_Bri_93 (by decide) ?_
  refine n_icmp_ge (tgt := 120) di_Bri_94 (by decide) (fun _ => ?_) (fun hc => absurd (show (2 : Int32) ≤ 2 by decide) hc)
  refine n_aload di_Bri_120 rfl (List.mem_of_getElem? (i := 1) rfl) ?_
  refine n_iconst (v := 2) di_Bri_121 (by decide) ?_
  refine n_newZ (N := 2) di_Bri_122 (by decide) (by decide) (Nat.le_of_ble_eq_true rfl) (Nat.le_of_ble_eq_true rfl) (Nat.le_of_ble_eq_true rfl) (fun ik => ?_)
  refine n_to (ws' := (q, .inr (5, [.ref t, .ref g, .ref nw, .ref tr, .ref ac, .ref fi, .ref sl, .null, .null, .null, .long 0])) :: ((((R0 ++ [(sl, rfE z 2 f2)]) ++ paL z g p1 w3 s3) ++ paL z g p2 w4 s4) ++ [(ik, .inl (z.2.1, 2, .inl (fun _ => 0)))])) rfl ?_
  refine n_putF 0 di_Bri_124 ff_Bri_53 rfl rfl rfl (Nat.le_of_ble_eq_true rfl) ?_
  refine n_to (ws' := (q, .inr (5, [.ref t, .ref g, .ref nw, .ref tr, .ref ac, .ref fi, .ref sl, .ref ik, .null, .null, .long 0])) :: ((((R0 ++ [(sl, rfE z 2 f2)]) ++ paL z g p1 w3 s3) ++ paL z g p2 w4 s4) ++ [(ik, .inl (z.2.1, 2, .inl (fun _ => 0)))])) rfl ?_
  refine n_aload di_Bri_127 rfl (List.mem_of_getElem? (i := 1) rfl) ?_
  refine n_bipush (v := 64) di_Bri_128 (by decide) ?_
  refine n_newI (N := 64) di_Bri_130 (by decide) (by decide) (Nat.le_of_ble_eq_true rfl) (Nat.le_of_ble_eq_true rfl) (Nat.le_of_ble_eq_true rfl) (fun cr => ?_)
  refine n_to (ws' := (q, .inr (5, [.ref t, .ref g, .ref nw, .ref tr, .ref ac, .ref fi, .ref sl, .ref ik, .null, .null, .long 0])) :: (((((R0 ++ [(sl, rfE z 2 f2)]) ++ paL z g p1 w3 s3) ++ paL z g p2 w4 s4) ++ [(ik, .inl (z.2.1, 2, .inl (fun _ => 0)))]) ++ [(cr, .inl (z.1, 64, .inl (fun _ => 0)))])) rfl ?_
  refine n_putF 0 di_Bri_132 ff_Bri_57 rfl rfl rfl (Nat.le_of_ble_eq_true rfl) ?_
  refine n_to (ws' := (q, .inr (5, [.ref t, .ref g, .ref nw, .ref tr, .ref ac, .ref fi, .ref sl, .ref ik, .ref cr, .null, .long 0])) :: (((((R0 ++ [(sl, rfE z 2 f2)]) ++ paL z g p1 w3 s3) ++ paL z g p2 w4 s4) ++ [(ik, .inl (z.2.1, 2, .inl (fun _ => 0)))]) ++ [(cr, .inl (z.1, 64, .inl (fun _ => 0)))])) rfl ?_
  refine n_aload di_Bri_135 rfl (List.mem_of_getElem? (i := 1) rfl) ?_
  refine n_bipush (v := 8) di_Bri_136 (by decide) ?_
  refine n_newI (N := 8) di_Bri_138 (by decide) (by decide) (Nat.le_of_ble_eq_true rfl) (Nat.le_of_ble_eq_true rfl) (Nat.le_of_ble_eq_true rfl) (fun ga => ?_)
  refine n_to (ws' := (q, .inr (5, [.ref t, .ref g, .ref nw, .ref tr, .ref ac, .ref fi, .ref sl, .ref ik, .ref cr, .null, .long 0])) :: ((((((R0 ++ [(sl, rfE z 2 f2)]) ++ paL z g p1 w3 s3) ++ paL z g p2 w4 s4) ++ [(ik, .inl (z.2.1, 2, .inl (fun _ => 0)))]) ++ [(cr, .inl (z.1, 64, .inl (fun _ => 0)))]) ++ [(ga, .inl (z.1, 8, .inl (fun _ => 0)))])) rfl ?_
  refine n_putF 0 di_Bri_140 ff_Bri_61 rfl rfl rfl (Nat.le_of_ble_eq_true rfl) ?_
  refine n_to (ws' := (q, .inr (5, [.ref t, .ref g, .ref nw, .ref tr, .ref ac, .ref fi, .ref sl, .ref ik, .ref cr, .ref ga, .long 0])) :: ((((((R0 ++ [(sl, rfE z 2 f2)]) ++ paL z g p1 w3 s3) ++ paL z g p2 w4 s4) ++ [(ik, .inl (z.2.1, 2, .inl (fun _ => 0)))]) ++ [(cr, .inl (z.1, 64, .inl (fun _ => 0)))]) ++ [(ga, .inl (z.1, 8, .inl (fun _ => 0)))])) rfl ?_
  refine n_aload di_Bri_143 rfl (List.mem_of_getElem? (i := 1) rfl) ?_
  refine n_lconst (v := 0) di_Bri_144 (by decide) ?_
  refine n_put 0 di_Bri_145 fp_Bri_64 rfl rfl rfl (Nat.le_of_ble_eq_true rfl) ?_
  refine n_to (ws' := (q, .inr (5, [.ref t, .ref g, .ref nw, .ref tr, .ref ac, .ref fi, .ref sl, .ref ik, .ref cr, .ref ga, .long 0])) :: ((((((R0 ++ [(sl, rfE z 2 f2)]) ++ paL z g p1 w3 s3) ++ paL z g p2 w4 s4) ++ [(ik, .inl (z.2.1, 2, .inl (fun _ => 0)))]) ++ [(cr, .inl (z.1, 64, .inl (fun _ => 0)))]) ++ [(ga, .inl (z.1, 8, .inl (fun _ => 0)))])) rfl ?_
  exact n_ret di_Bri_148 ⟨t, la, g, k, s, nw, w1, s1, tr, w2, s2, ac, b, f, P, fi, i1, i2, i3, sl, f2, p1, w3, s3, p2, w4, s4, ik, cr, ga, ⟨hP, hf, by rw [hf2]; rfl, by rw [hf2]; rfl⟩, by rw [hR0]; rfl⟩
