def l_Pan_copy_2 (p : Nat) (q : Nat) (kx : Int32 → HI → HL → Option Out) : Nat → Int32 → HI → HL → Option Out
  | 0, _, _, _ => none
  | n + 1, m2, X, Y =>
    (if (6 : Int32) ≤ m2 then
    (kx m2 X Y)
    else
    gd (ixb m2 6) (
    wr (ixb m2 6) (up X (p + 1) m2.toNatClampNeg (X (q + 1) m2.toNatClampNeg)) (fun X1 =>
    gd (ixb m2 6) (
    wr (ixb m2 6) (up X1 (p + 2) m2.toNatClampNeg (X1 (q + 2) m2.toNatClampNeg)) (fun X2 =>
    (l_Pan_copy_2 p q kx n (m2 + (1 : Int32)) X2 Y))))))
def f_Pan_copy (p : Nat) (q : Nat) (X : HI) (Y : HL) : Option Out :=
    (l_Pan_copy_2 p q (fun w3 X4 Y5 =>
    lh (up X4 p 3 (X4 q 3)) (fun X6 =>
    lh (up X6 p 4 (X6 q 4)) (fun X7 =>
    lh (up X7 p 5 (X7 q 5)) (fun X8 =>
    (rV X8 Y5))))) 256 (0 : Int32) X Y)
set_option maxRecDepth 4000 in
theorem jl_Pan_copy_2 {K : KK} (hK : kOK K) (p : Nat) (q : Nat) (hp : IsP p) (hq : IsP q) (kx : Int32 → HI → HL → Option Out) (hkx : ∀ (m2 : Int32) (X : HI) (Y : HL), JO K "BrinePans$Pans" prog_5_method_4_code 3 none rm_Pan_copy 0 0 (MZ K) 38 [some (.ref p), some (.ref q), none] [] X Y (kx m2 X Y)) : ∀ (n : Nat) (m2 : Int32) (X : HI) (Y : HL), JO K "BrinePans$Pans" prog_5_method_4_code 3 none rm_Pan_copy 0 0 (MZ K) 2 [some (.ref p), some (.ref q), some (.int m2)] [] X Y (l_Pan_copy_2 p q kx n m2 X Y) := by
  intro n
  induction n with
  | zero =>
    intro m2 X Y
    rw [l_Pan_copy_2]
    exact j_none
  | succ n ih =>
    intro m2 X Y
    rw [l_Pan_copy_2]
    refine j_iload_n (i := 2) (x := m2) (q := 3) d_Pan_copy_2 rfl rfl rfl ?_
    refine j_bipush (v := 6) (q := 5) d_Pan_copy_3 (by decide +kernel) rfl ?_
    refine j_icmp_ge (t := 38) (q := 8) d_Pan_copy_5 (by decide) rfl ?_ ?_
    · refine j_sub (L' := [some (.ref p), some (.ref q), none]) ⟨rfl, ⟨rfl, trivial⟩⟩ ?_
      exact hkx m2 X Y
    · refine j_aload_n (i := 0) (x := p) (q := 9) d_Pan_copy_8 rfl rfl rfl ?_
      refine j_get (v := .ref (p + 1)) (q := 12) d_Pan_copy_9 fk_Pan_9 (fv_P1 hp) rfl ?_
      refine j_iload_n (i := 2) (x := m2) (q := 13) d_Pan_copy_12 rfl rfl rfl ?_
      refine j_aload_n (i := 1) (x := q) (q := 14) d_Pan_copy_13 rfl rfl rfl ?_
      refine j_get (v := .ref (q + 1)) (q := 17) d_Pan_copy_14 fk_Pan_9 (fv_P1 hq) rfl ?_
      refine j_iload_n (i := 2) (x := m2) (q := 18) d_Pan_copy_17 rfl rfl rfl ?_
      refine j_iald (q := 19) d_Pan_copy_18 (ai_P1 hq) rfl ?_
      refine j_iast (q := 20) d_Pan_copy_19 (ai_P1 hp) rfl (fun X1 => ?_)
      refine j_aload_n (i := 0) (x := p) (q := 21) d_Pan_copy_20 rfl rfl rfl ?_
      refine j_get (v := .ref (p + 2)) (q := 24) d_Pan_copy_21 fk_Pan_15 (fv_P2 hp) rfl ?_
      refine j_iload_n (i := 2) (x := m2) (q := 25) d_Pan_copy_24 rfl rfl rfl ?_
      refine j_aload_n (i := 1) (x := q) (q := 26) d_Pan_copy_25 rfl rfl rfl ?_
      refine j_get (v := .ref (q + 2)) (q := 29) d_Pan_copy_26 fk_Pan_15 (fv_P2 hq) rfl ?_
      refine j_iload_n (i := 2) (x := m2) (q := 30) d_Pan_copy_29 rfl rfl rfl ?_
      refine j_iald (q := 31) d_Pan_copy_30 (ai_P2 hq) rfl ?_
      refine j_iast (q := 32) d_Pan_copy_31 (ai_P2 hp) rfl (fun X2 => ?_)
      refine j_iinc (i := 2) (x := m2) (d := 1) (L' := [some (.ref p), some (.ref q), some (.int (m2 + (1 : Int32)))]) (q := 35) d_Pan_copy_32 rfl (by decide) (by decide) rfl rfl rfl ?_
      refine j_goto (q := 2) d_Pan_copy_35 (by decide) ?_
      refine j_sub (L' := [some (.ref p), some (.ref q), some (.int (m2 + (1 : Int32)))]) ⟨rfl, ⟨rfl, ⟨rfl, trivial⟩⟩⟩ ?_
      exact ih (m2 + (1 : Int32)) X2 Y
set_option maxRecDepth 4000 in
theorem c_Pan_copy {K : KK} (hK : kOK K) (p : Nat) (q : Nat) (hp : IsP p) (hq : IsP q) (X : HI) (Y : HL) : CT K y_Pan_copy prog_5_method_4_code 3 none rm_Pan_copy [.ref p, .ref q] X Y (f_Pan_copy p q X Y) := by
  refine ct_of hK (L := [some (.ref p), some (.ref q), none]) (by decide) ⟨rfl, ⟨rfl, trivial⟩⟩ (Nat.le_of_ble_eq_true rfl) ?_
  unfold f_Pan_copy
  refine j_iconst (v := 0) (q := 1) d_Pan_copy_0 (by decide) rfl ?_
  refine j_istore_n (i := 2) (L' := [some (.ref p), some (.ref q), some (.int (0 : Int32))]) (q := 2) d_Pan_copy_1 rfl (by decide) rfl rfl rfl ?_
  refine j_sub (L' := [some (.ref p), some (.ref q), some (.int (0 : Int32))]) ⟨rfl, ⟨rfl, ⟨rfl, trivial⟩⟩⟩ ?_
  refine jl_Pan_copy_2 hK p q hp hq _ (fun w3 X4 Y5 => ?_) 256 (0 : Int32) X Y
  refine j_aload_n (i := 0) (x := p) (q := 39) d_Pan_copy_38 rfl rfl rfl ?_
  refine j_aload_n (i := 1) (x := q) (q := 40) d_Pan_copy_39 rfl rfl rfl ?_
  refine j_get (v := .int (X4 q 3)) (q := 43) d_Pan_copy_40 fk_Pan_18 (fv_P3 hq) rfl ?_
  refine j_putI (q := 46) d_Pan_copy_43 fp_Pan_18 (fw_P3 hp) rfl (fun X6 => ?_)
  refine j_aload_n (i := 0) (x := p) (q := 47) d_Pan_copy_46 rfl rfl rfl ?_
  refine j_aload_n (i := 1) (x := q) (q := 48) d_Pan_copy_47 rfl rfl rfl ?_
  refine j_get (v := .int (X6 q 4)) (q := 51) d_Pan_copy_48 fk_Pan_22 (fv_P4 hq) rfl ?_
  refine j_putI (q := 54) d_Pan_copy_51 fp_Pan_22 (fw_P4 hp) rfl (fun X7 => ?_)
  refine j_aload_n (i := 0) (x := p) (q := 55) d_Pan_copy_54 rfl rfl rfl ?_
  refine j_aload_n (i := 1) (x := q) (q := 56) d_Pan_copy_55 rfl rfl rfl ?_
  refine j_get (v := .int (X7 q 5)) (q := 59) d_Pan_copy_56 fk_Pan_25 (fv_P5 hq) rfl ?_
  refine j_putI (q := 62) d_Pan_copy_59 fp_Pan_25 (fw_P5 hp) rfl (fun X8 => ?_)
  exact j_vret d_Pan_copy_62
def f_Gro_clear (X : HI) (Y : HL) : Option Out :=
    lh (up X 3 2 (0 : Int32)) (fun X1 =>
    lh (up X1 3 3 (0 : Int32)) (fun X2 =>
    (rV X2 Y)))
set_option maxRecDepth 4000 in
theorem c_Gro_clear {K : KK} (hK : kOK K) (X : HI) (Y : HL) : CT K y_Gro_clear prog_4_method_2_code 1 none rm_Gro_clear [.ref 3] X Y (f_Gro_clear X Y) := by
  refine ct_of hK (L := [some (.ref 3)]) (by decide) ⟨rfl, trivial⟩ (Nat.le_of_ble_eq_true rfl) ?_
  unfold f_Gro_clear
  refine j_aload_n (i := 0) (x := 3) (q := 1) d_Gro_clear_0 rfl rfl rfl ?_
  refine j_iconst (v := 0) (q := 2) d_Gro_clear_1 (by decide) rfl ?_
  refine j_putI (q := 5) d_Gro_clear_2 fp_Gro_18 fw_3_2 rfl (fun X1 => ?_)
  refine j_aload_n (i := 0) (x := 3) (q := 6) d_Gro_clear_5 rfl rfl rfl ?_
  refine j_iconst (v := 0) (q := 7) d_Gro_clear_6 (by decide) rfl ?_
  refine j_putI (q := 10) d_Gro_clear_7 fp_Gro_22 fw_3_3 rfl (fun X2 => ?_)
  exact j_vret d_Gro_clear_10
def f_Gro_addPan (x1 : Int32) (X : HI) (Y : HL) : Option Out :=
    (if (6 : Int32) ≤ (X 3 2) then
    (rV X Y)
    else
    wr (ixb (X 3 2) 6) (up X 4 (X 3 2).toNatClampNeg x1) (fun X1 =>
    lh (up X1 3 2 ((X1 3 2) + (1 : Int32))) (fun X2 =>
    (rV X2 Y))))
set_option maxRecDepth 4000 in
theorem c_Gro_addPan {K : KK} (hK : kOK K) (x1 : Int32) (X : HI) (Y : HL) : CT K y_Gro_addPan prog_4_method_3_code 2 none rm_Gro_addPan [.ref 3, .int x1] X Y (f_Gro_addPan x1 X Y) := by
  refine ct_of hK (L := [some (.ref 3), some (.int x1)]) (by decide) ⟨rfl, ⟨rfl, trivial⟩⟩ (Nat.le_of_ble_eq_true rfl) ?_
  unfold f_Gro_addPan
  refine j_aload_n (i := 0) (x := 3) (q := 1) d_Gro_addPan_0 rfl rfl rfl ?_
  refine j_get (v := .int (X 3 2)) (q := 4) d_Gro_addPan_1 fk_Gro_18 fv_3_2 rfl ?_
  refine j_bipush (v := 6) (q := 6) d_Gro_addPan_4 (by decide +kernel) rfl ?_
  refine j_icmp_ge (t := 29) (q := 9) d_Gro_addPan_6 (by decide) rfl ?_ ?_
  · exact j_vret d_Gro_addPan_29
  · refine j_aload_n (i := 0) (x := 3) (q := 10) d_Gro_addPan_9 rfl rfl rfl ?_
    refine j_get (v := .ref 4) (q := 13) d_Gro_addPan_10 fk_Gro_9 fv_3_0 rfl ?_
    refine j_aload_n (i := 0) (x := 3) (q := 14) d_Gro_addPan_13 rfl rfl rfl ?_
    refine j_get (v := .int (X 3 2)) (q := 17) d_Gro_addPan_14 fk_Gro_18 fv_3_2 rfl ?_
    refine j_iload_n (i := 1) (x := x1) (q := 18) d_Gro_addPan_17 rfl rfl rfl ?_
    refine j_iast (q := 19) d_Gro_addPan_18 ai_4 rfl (fun X1 => ?_)
    refine j_aload_n (i := 0) (x := 3) (q := 20) d_Gro_addPan_19 rfl rfl rfl ?_
    refine j_dup (q := 21) d_Gro_addPan_20 rfl rfl ?_
    refine j_get (v := .int (X1 3 2)) (q := 24) d_Gro_addPan_21 fk_Gro_18 fv_3_2 rfl ?_
    refine j_iconst (v := 1) (q := 25) d_Gro_addPan_24 (by decide) rfl ?_
    refine j_iadd (q := 26) d_Gro_addPan_25 rfl ?_
    refine j_putI (q := 29) d_Gro_addPan_26 fp_Gro_18 fw_3_2 rfl (fun X2 => ?_)
    exact j_vret d_Gro_addPan_29
def f_Gro_addSky (x1 : Int32) (X : HI) (Y : HL) : Option Out :=
    (if (5 : Int32) ≤ (X 3 3) then
    (rV X Y)
    else
    wr (ixb (X 3 3) 5) (up X 5 (X 3 3).toNatClampNeg x1) (fun X1 =>
    lh (up X1 3 3 ((X1 3 3) + (1 : Int32))) (fun X2 =>
    (rV X2 Y))))
set_option maxRecDepth 4000 in
theorem c_Gro_addSky {K : KK} (hK : kOK K) (x1 : Int32) (X : HI) (Y : HL) : CT K y_Gro_addSky prog_4_method_4_code 2 none rm_Gro_addSky [.ref 3, .int x1] X Y (f_Gro_addSky x1 X Y) := by
  refine ct_of hK (L := [some (.ref 3), some (.int x1)]) (by decide) ⟨rfl, ⟨rfl, trivial⟩⟩ (Nat.le_of_ble_eq_true rfl) ?_
  unfold f_Gro_addSky
  refine j_aload_n (i := 0) (x := 3) (q := 1) d_Gro_addSky_0 rfl rfl rfl ?_
  refine j_get (v := .int (X 3 3)) (q := 4) d_Gro_addSky_1 fk_Gro_22 fv_3_3 rfl ?_
  refine j_iconst (v := 5) (q := 5) d_Gro_addSky_4 (by decide) rfl ?_
  refine j_icmp_ge (t := 28) (q := 8) d_Gro_addSky_5 (by decide) rfl ?_ ?_
  · exact j_vret d_Gro_addSky_28
  · refine j_aload_n (i := 0) (x := 3) (q := 9) d_Gro_addSky_8 rfl rfl rfl ?_
    refine j_get (v := .ref 5) (q := 12) d_Gro_addSky_9 fk_Gro_15 fv_3_1 rfl ?_
    refine j_aload_n (i := 0) (x := 3) (q := 13) d_Gro_addSky_12 rfl rfl rfl ?_
    refine j_get (v := .int (X 3 3)) (q := 16) d_Gro_addSky_13 fk_Gro_22 fv_3_3 rfl ?_
    refine j_iload_n (i := 1) (x := x1) (q := 17) d_Gro_addSky_16 rfl rfl rfl ?_
    refine j_iast (q := 18) d_Gro_addSky_17 ai_5 rfl (fun X1 => ?_)
    refine j_aload_n (i := 0) (x := 3) (q := 19) d_Gro_addSky_18 rfl rfl rfl ?_
    refine j_dup (q := 20) d_Gro_addSky_19 rfl rfl ?_
    refine j_get (v := .int (X1 3 3)) (q := 23) d_Gro_addSky_20 fk_Gro_22 fv_3_3 rfl ?_
    refine j_iconst (v := 1) (q := 24) d_Gro_addSky_23 (by decide) rfl ?_
    refine j_iadd (q := 25) d_Gro_addSky_24 rfl ?_
    refine j_putI (q := 28) d_Gro_addSky_25 fp_Gro_22 fw_3_3 rfl (fun X2 => ?_)
    exact j_vret d_Gro_addSky_28
def f_Gro_hasPan (x1 : Int32) (X : HI) (Y : HL) : Option Out :=
    (if x1 < 0 then
    (rI (0 : Int32) X Y)
    else
    (if (X 3 2) ≤ x1 then
    (rI (0 : Int32) X Y)
    else
    (rI (1 : Int32) X Y)))
set_option maxRecDepth 4000 in
theorem c_Gro_hasPan {K : KK} (hK : kOK K) (x1 : Int32) (X : HI) (Y : HL) : CT K y_Gro_hasPan prog_4_method_5_code 2 (some .boolean) rm_Gro_hasPan [.ref 3, .int x1] X Y (f_Gro_hasPan x1 X Y) := by
  refine ct_of hK (L := [some (.ref 3), some (.int x1)]) (by decide) ⟨rfl, ⟨rfl, trivial⟩⟩ (Nat.le_of_ble_eq_true rfl) ?_
  unfold f_Gro_hasPan
  refine j_iload_n (i := 1) (x := x1) (q := 1) d_Gro_hasPan_0 rfl rfl rfl ?_
  refine j_if_lt (t := 16) (q := 4) d_Gro_hasPan_1 (by decide) rfl ?_ ?_
  · refine j_iconst (v := 0) (q := 17) d_Gro_hasPan_16 (by decide) rfl ?_
    exact j_zret d_Gro_hasPan_17 (by decide)
  · refine j_iload_n (i := 1) (x := x1) (q := 5) d_Gro_hasPan_4 rfl rfl rfl ?_
    refine j_aload_n (i := 0) (x := 3) (q := 6) d_Gro_hasPan_5 rfl rfl rfl ?_
    refine j_get (v := .int (X 3 2)) (q := 9) d_Gro_hasPan_6 fk_Gro_18 fv_3_2 rfl ?_
    refine j_icmp_ge (t := 16) (q := 12) d_Gro_hasPan_9 (by decide) rfl ?_ ?_
    · refine j_iconst (v := 0) (q := 17) d_Gro_hasPan_16 (by decide) rfl ?_
      exact j_zret d_Gro_hasPan_17 (by decide)
    · refine j_iconst (v := 1) (q := 13) d_Gro_hasPan_12 (by decide) rfl ?_
      refine j_goto (q := 17) d_Gro_hasPan_13 (by decide) ?_
      exact j_zret d_Gro_hasPan_17 (by decide)
def f_Gro_gateCount (X : HI) (Y : HL) : Option Out :=
    (if (X 3 2) = 0 then
    (rI (0 : Int32) X Y)
    else
    (rI ((X 3 2) - (1 : Int32)) X Y))
set_option maxRecDepth 4000 in
theorem c_Gro_gateCount {K : KK} (hK : kOK K) (X : HI) (Y : HL) : CT K y_Gro_gateCount prog_4_method_6_code 1 (some .int) rm_Gro_gateCount [.ref 3] X Y (f_Gro_gateCount X Y) := by
  refine ct_of hK (L := [some (.ref 3)]) (by decide) ⟨rfl, trivial⟩ (Nat.le_of_ble_eq_true rfl) ?_
  unfold f_Gro_gateCount
  refine j_aload_n (i := 0) (x := 3) (q := 1) d_Gro_gateCount_0 rfl rfl rfl ?_
  refine j_get (v := .int (X 3 2)) (q := 4) d_Gro_gateCount_1 fk_Gro_18 fv_3_2 rfl ?_
  refine j_if_ne (t := 11) (q := 7) d_Gro_gateCount_4 (by decide) rfl ?_ ?_
  · refine j_aload_n (i := 0) (x := 3) (q := 12) d_Gro_gateCount_11 rfl rfl rfl ?_
    refine j_get (v := .int (X 3 2)) (q := 15) d_Gro_gateCount_12 fk_Gro_18 fv_3_2 rfl ?_
    refine j_iconst (v := 1) (q := 16) d_Gro_gateCount_15 (by decide) rfl ?_
    refine j_isub (q := 17) d_Gro_gateCount_16 rfl ?_
    exact j_iret d_Gro_gateCount_17
  · refine j_iconst (v := 0) (q := 8) d_Gro_gateCount_7 (by decide) rfl ?_
    refine j_goto (q := 17) d_Gro_gateCount_8 (by decide) ?_
    exact j_iret d_Gro_gateCount_17
def f_Gro_hasGate (x1 : Int32) (X : HI) (Y : HL) : Option Out :=
    (if x1 < 0 then
    (rI (0 : Int32) X Y)
    else
    bi (f_Gro_gateCount X Y) (fun r3 X1 Y2 =>
    (if r3 ≤ x1 then
    (rI (0 : Int32) X1 Y2)
    else
    (rI (1 : Int32) X1 Y2))))
set_option maxRecDepth 4000 in
theorem c_Gro_hasGate {K : KK} (hK : kOK K) (x1 : Int32) (X : HI) (Y : HL) : CT K y_Gro_hasGate prog_4_method_7_code 2 (some .boolean) rm_Gro_hasGate [.ref 3, .int x1] X Y (f_Gro_hasGate x1 X Y) := by
  refine ct_of hK (L := [some (.ref 3), some (.int x1)]) (by decide) ⟨rfl, ⟨rfl, trivial⟩⟩ (Nat.le_of_ble_eq_true rfl) ?_
  unfold f_Gro_hasGate
  refine j_iload_n (i := 1) (x := x1) (q := 1) d_Gro_hasGate_0 rfl rfl rfl ?_
  refine j_if_lt (t := 16) (q := 4) d_Gro_hasGate_1 (by decide) rfl ?_ ?_
  · refine j_iconst (v := 0) (q := 17) d_Gro_hasGate_16 (by decide) rfl ?_
    exact j_zret d_Gro_hasGate_17 (by decide)
  · refine j_iload_n (i := 1) (x := x1) (q := 5) d_Gro_hasGate_4 rfl rfl rfl ?_
    refine j_aload_n (i := 0) (x := 3) (q := 6) d_Gro_hasGate_5 rfl rfl rfl ?_
    refine j_callVi (a := 3) (S := [.int x1]) (q := 9) [] d_Gro_hasGate_6 mw_Gro_gateCount mv_Gro_gateCount ml_Gro_25 ob_3 rfl rfl (c_Gro_gateCount hK X Y) ⟨⟨rfl, rfl⟩, ⟨Nat.le_of_ble_eq_true rfl, Nat.le_of_ble_eq_true rfl⟩, ⟨Nat.le_refl 0, Nat.le_refl 0⟩⟩ (Nat.le_of_ble_eq_true rfl) rfl (fun r3 X1 Y2 => ?_)
    refine j_icmp_ge (t := 16) (q := 12) d_Gro_hasGate_9 (by decide) rfl ?_ ?_
    · refine j_iconst (v := 0) (q := 17) d_Gro_hasGate_16 (by decide) rfl ?_
      exact j_zret d_Gro_hasGate_17 (by decide)
    · refine j_iconst (v := 1) (q := 13) d_Gro_hasGate_12 (by decide) rfl ?_
      refine j_goto (q := 17) d_Gro_hasGate_13 (by decide) ?_
      exact j_zret d_Gro_hasGate_17 (by decide)
def f_Gro_skyOf (x1 : Int32) (X : HI) (Y : HL) : Option Out :=
    (if (X 3 3) = 0 then
    (rI (0 : Int32) X Y)
    else
    (if 0 ≤ x1 then
    gd (nzb (X 3 3)) (
    gd (ixb (x1 - x1 / (X 3 3) * (X 3 3)) 5) (
    (rI (X 5 (x1 - x1 / (X 3 3) * (X 3 3)).toNatClampNeg) X Y)))
    else
    (rI (0 : Int32) X Y)))
set_option maxRecDepth 4000 in
theorem c_Gro_skyOf {K : KK} (hK : kOK K) (x1 : Int32) (X : HI) (Y : HL) : CT K y_Gro_skyOf prog_4_method_8_code 2 (some .int) rm_Gro_skyOf [.ref 3, .int x1] X Y (f_Gro_skyOf x1 X Y) := by
  refine ct_of hK (L := [some (.ref 3), some (.int x1)]) (by decide) ⟨rfl, ⟨rfl, trivial⟩⟩ (Nat.le_of_ble_eq_true rfl) ?_
  unfold f_Gro_skyOf
  refine j_aload_n (i := 0) (x := 3) (q := 1) d_Gro_skyOf_0 rfl rfl rfl ?_
  refine j_get (v := .int (X 3 3)) (q := 4) d_Gro_skyOf_1 fk_Gro_22 fv_3_3 rfl ?_
  refine j_if_eq (t := 11) (q := 7) d_Gro_skyOf_4 (by decide) rfl ?_ ?_
  · refine j_iconst (v := 0) (q := 12) d_Gro_skyOf_11 (by decide) rfl ?_
    refine j_goto (q := 26) d_Gro_skyOf_12 (by decide) ?_
    exact j_iret d_Gro_skyOf_26
  · refine j_iload_n (i := 1) (x := x1) (q := 8) d_Gro_skyOf_7 rfl rfl rfl ?_
    refine j_if_ge (t := 15) (q := 11) d_Gro_skyOf_8 (by decide) rfl ?_ ?_
    · refine j_aload_n (i := 0) (x := 3) (q := 16) d_Gro_skyOf_15 rfl rfl rfl ?_
      refine j_get (v := .ref 5) (q := 19) d_Gro_skyOf_16 fk_Gro_15 fv_3_1 rfl ?_
      refine j_iload_n (i := 1) (x := x1) (q := 20) d_Gro_skyOf_19 rfl rfl rfl ?_
      refine j_aload_n (i := 0) (x := 3) (q := 21) d_Gro_skyOf_20 rfl rfl rfl ?_
      refine j_get (v := .int (X 3 3)) (q := 24) d_Gro_skyOf_21 fk_Gro_22 fv_3_3 rfl ?_
      refine j_irem (q := 25) d_Gro_skyOf_24 rfl ?_
      refine j_iald (q := 26) d_Gro_skyOf_25 ai_5 rfl ?_
      exact j_iret d_Gro_skyOf_26
    · refine j_iconst (v := 0) (q := 12) d_Gro_skyOf_11 (by decide) rfl ?_
      refine j_goto (q := 26) d_Gro_skyOf_12 (by decide) ?_
      exact j_iret d_Gro_skyOf_26
def f_Gro_depthOf (x1 : Int32) (X : HI) (Y : HL) : Option Out :=
    gd (ixb x1 6) (
    (if (X 4 x1.toNatClampNeg) = (1 : Int32) then
    (rI (9 : Int32) X Y)
    else
    (rI (6 : Int32) X Y)))
set_option maxRecDepth 4000 in
theorem c_Gro_depthOf {K : KK} (hK : kOK K) (x1 : Int32) (X : HI) (Y : HL) : CT K y_Gro_depthOf prog_4_method_9_code 2 (some .int) rm_Gro_depthOf [.ref 3, .int x1] X Y (f_Gro_depthOf x1 X Y) := by
  refine ct_of hK (L := [some (.ref 3), some (.int x1)]) (by decide) ⟨rfl, ⟨rfl, trivial⟩⟩ (Nat.le_of_ble_eq_true rfl) ?_
  unfold f_Gro_depthOf
  refine j_aload_n (i := 0) (x := 3) (q := 1) d_Gro_depthOf_0 rfl rfl rfl ?_
  refine j_get (v := .ref 4) (q := 4) d_Gro_depthOf_1 fk_Gro_9 fv_3_0 rfl ?_
  refine j_iload_n (i := 1) (x := x1) (q := 5) d_Gro_depthOf_4 rfl rfl rfl ?_
  refine j_iald (q := 6) d_Gro_depthOf_5 ai_4 rfl ?_
  refine j_iconst (v := 1) (q := 7) d_Gro_depthOf_6 (by decide) rfl ?_
  refine j_icmp_ne (t := 15) (q := 10) d_Gro_depthOf_7 (by decide) rfl ?_ ?_
  · refine j_bipush (v := 6) (q := 17) d_Gro_depthOf_15 (by decide +kernel) rfl ?_
    exact j_iret d_Gro_depthOf_17
  · refine j_bipush (v := 9) (q := 12) d_Gro_depthOf_10 (by decide +kernel) rfl ?_
    refine j_goto (q := 17) d_Gro_depthOf_12 (by decide) ?_
    exact j_iret d_Gro_depthOf_17
def b_Pan_emptyAllBut_30 (p : Nat) (kc : Int32 → HI → HL → Option Out) (kx : Int32 → HI → HL → Option Out) (x1 : Int32) (x2 : Int32) (X : HI) (Y : HL) : Option Out :=
    (kc (x2 + (1 : Int32)) X Y)
def l_Pan_emptyAllBut_2 (p : Nat) (x1 : Int32) (kx : Int32 → HI → HL → Option Out) : Nat → Int32 → HI → HL → Option Out
  | 0, _, _, _ => none
  | n + 1, m2, X, Y =>
    (if (6 : Int32) ≤ m2 then
    (kx m2 X Y)
    else
    (if ((x1 >>> (m2 &&& 31)) &&& (1 : Int32)) = 0 then
    wr (ixb m2 6) (up X (p + 1) m2.toNatClampNeg (0 : Int32)) (fun X1 =>
    wr (ixb m2 6) (up X1 (p + 2) m2.toNatClampNeg (0 : Int32)) (fun X2 =>
    (b_Pan_emptyAllBut_30 p (fun a2 A B => l_Pan_emptyAllBut_2 p x1 kx n a2 A B) kx x1 m2 X2 Y)))
    else
    (b_Pan_emptyAllBut_30 p (fun a2 A B => l_Pan_emptyAllBut_2 p x1 kx n a2 A B) kx x1 m2 X Y)))
def f_Pan_emptyAllBut (p : Nat) (x1 : Int32) (X : HI) (Y : HL) : Option Out :=
    (l_Pan_emptyAllBut_2 p x1 (fun w3 X4 Y5 =>
    (rV X4 Y5)) 256 (0 : Int32) X Y)
set_option maxRecDepth 4000 in
theorem jb_Pan_emptyAllBut_30 {K : KK} (hK : kOK K) (p : Nat) (hp : IsP p) (kc : Int32 → HI → HL → Option Out) (kx : Int32 → HI → HL → Option Out) (x1 : Int32) (x2 : Int32) (hkc : ∀ (m2 : Int32) (X : HI) (Y : HL), JO K "BrinePans$Pans" prog_5_method_5_code 3 none rm_Pan_emptyAllBut 0 0 (MZ K) 2 [some (.ref p), some (.int x1), some (.int m2)] [] X Y (kc m2 X Y)) (hkx : ∀ (m2 : Int32) (X : HI) (Y : HL), JO K "BrinePans$Pans" prog_5_method_5_code 3 none rm_Pan_emptyAllBut 0 0 (MZ K) 36 [none, none, none] [] X Y (kx m2 X Y)) (X : HI) (Y : HL) : JO K "BrinePans$Pans" prog_5_method_5_code 3 none rm_Pan_emptyAllBut 0 0 (MZ K) 30 [some (.ref p), some (.int x1), some (.int x2)] [] X Y (b_Pan_emptyAllBut_30 p kc kx x1 x2 X Y) := by
  unfold b_Pan_emptyAllBut_30
  refine j_iinc (i := 2) (x := x2) (d := 1) (L' := [some (.ref p), some (.int x1), some (.int (x2 + (1 : Int32)))]) (q := 33) d_Pan_emptyAllBut_30 rfl (by decide) (by decide) rfl rfl rfl ?_
  refine j_goto (q := 2) d_Pan_emptyAllBut_33 (by decide) ?_
  refine j_sub (L' := [some (.ref p), some (.int x1), some (.int (x2 + (1 : Int32)))]) ⟨rfl, ⟨rfl, ⟨rfl, trivial⟩⟩⟩ ?_
  exact hkc (x2 + (1 : Int32)) X Y
set_option maxRecDepth 4000 in
theorem jl_Pan_emptyAllBut_2 {K : KK} (hK : kOK K) (p : Nat) (hp : IsP p) (x1 : Int32) (kx : Int32 → HI → HL → Option Out) (hkx : ∀ (m2 : Int32) (X : HI) (Y : HL), JO K "BrinePans$Pans" prog_5_method_5_code 3 none rm_Pan_emptyAllBut 0 0 (MZ K) 36 [none, none, none] [] X Y (kx m2 X Y)) : ∀ (n : Nat) (m2 : Int32) (X : HI) (Y : HL), JO K "BrinePans$Pans" prog_5_method_5_code 3 none rm_Pan_emptyAllBut 0 0 (MZ K) 2 [some (.ref p), some (.int x1), some (.int m2)] [] X Y (l_Pan_emptyAllBut_2 p x1 kx n m2 X Y) := by
  intro n
  induction n with
  | zero =>
    intro m2 X Y
    rw [l_Pan_emptyAllBut_2]
    exact j_none
  | succ n ih =>
    intro m2 X Y
    rw [l_Pan_emptyAllBut_2]
    refine j_iload_n (i := 2) (x := m2) (q := 3) d_Pan_emptyAllBut_2 rfl rfl rfl ?_
    refine j_bipush (v := 6) (q := 5) d_Pan_emptyAllBut_3 (by decide +kernel) rfl ?_
    refine j_icmp_ge (t := 36) (q := 8) d_Pan_emptyAllBut_5 (by decide) rfl ?_ ?_
    · refine j_sub (L' := [none, none, none]) trivial ?_
      exact hkx m2 X Y
    · refine j_iload_n (i := 1) (x := x1) (q := 9) d_Pan_emptyAllBut_8 rfl rfl rfl ?_
      refine j_iload_n (i := 2) (x := m2) (q := 10) d_Pan_emptyAllBut_9 rfl rfl rfl ?_
      refine j_ishr (q := 11) d_Pan_emptyAllBut_10 rfl ?_
      refine j_iconst (v := 1) (q := 12) d_Pan_emptyAllBut_11 (by decide) rfl ?_
      refine j_iand (q := 13) d_Pan_emptyAllBut_12 rfl ?_
      refine j_if_ne (t := 30) (q := 16) d_Pan_emptyAllBut_13 (by decide) rfl ?_ ?_
      · refine j_sub (L' := [some (.ref p), some (.int x1), some (.int m2)]) ⟨rfl, ⟨rfl, ⟨rfl, trivial⟩⟩⟩ ?_
        exact jb_Pan_emptyAllBut_30 hK p hp (fun a2 A B => l_Pan_emptyAllBut_2 p x1 kx n a2 A B) kx x1 m2 ih hkx X Y
      · refine j_aload_n (i := 0) (x := p) (q := 17) d_Pan_emptyAllBut_16 rfl rfl rfl ?_
        refine j_get (v := .ref (p + 1)) (q := 20) d_Pan_emptyAllBut_17 fk_Pan_9 (fv_P1 hp) rfl ?_
        refine j_iload_n (i := 2) (x := m2) (q := 21) d_Pan_emptyAllBut_20 rfl rfl rfl ?_
        refine j_iconst (v := 0) (q := 22) d_Pan_emptyAllBut_21 (by decide) rfl ?_
        refine j_iast (q := 23) d_Pan_emptyAllBut_22 (ai_P1 hp) rfl (fun X1 => ?_)
        refine j_aload_n (i := 0) (x := p) (q := 24) d_Pan_emptyAllBut_23 rfl rfl rfl ?_
        refine j_get (v := .ref (p + 2)) (q := 27) d_Pan_emptyAllBut_24 fk_Pan_15 (fv_P2 hp) rfl ?_
        refine j_iload_n (i := 2) (x := m2) (q := 28) d_Pan_emptyAllBut_27 rfl rfl rfl ?_
        refine j_iconst (v := 0) (q := 29) d_Pan_emptyAllBut_28 (by decide) rfl ?_
        refine j_iast (q := 30) d_Pan_emptyAllBut_29 (ai_P2 hp) rfl (fun X2 => ?_)
        refine j_sub (L' := [some (.ref p), some (.int x1), some (.int m2)]) ⟨rfl, ⟨rfl, ⟨rfl, trivial⟩⟩⟩ ?_
        exact jb_Pan_emptyAllBut_30 hK p hp (fun a2 A B => l_Pan_emptyAllBut_2 p x1 kx n a2 A B) kx x1 m2 ih hkx X2 Y
set_option maxRecDepth 4000 in
theorem c_Pan_emptyAllBut {K : KK} (hK : kOK K) (p : Nat) (hp : IsP p) (x1 : Int32) (X : HI) (Y : HL) : CT K y_Pan_emptyAllBut prog_5_method_5_code 3 none rm_Pan_emptyAllBut [.ref p, .int x1] X Y (f_Pan_emptyAllBut p x1 X Y) := by
  refine ct_of hK (L := [some (.ref p), some (.int x1), none]) (by decide) ⟨rfl, ⟨rfl, trivial⟩⟩ (Nat.le_of_ble_eq_true rfl) ?_
  unfold f_Pan_emptyAllBut
  refine j_iconst (v := 0) (q := 1) d_Pan_emptyAllBut_0 (by decide) rfl ?_
  refine j_istore_n (i := 2) (L' := [some (.ref p), some (.int x1), some (.int (0 : Int32))]) (q := 2) d_Pan_emptyAllBut_1 rfl (by decide) rfl rfl rfl ?_
  refine j_sub (L' := [some (.ref p), some (.int x1), some (.int (0 : Int32))]) ⟨rfl, ⟨rfl, ⟨rfl, trivial⟩⟩⟩ ?_
  refine jl_Pan_emptyAllBut_2 hK p hp x1 _ (fun w3 X4 Y5 => ?_) 256 (0 : Int32) X Y
  exact j_vret d_Pan_emptyAllBut_36
def f_Pan_clear (p : Nat) (X : HI) (Y : HL) : Option Out :=
    bv (f_Pan_emptyAllBut p (0 : Int32) X Y) (fun X1 Y2 =>
    lh (up X1 p 3 (0 : Int32)) (fun X3 =>
    lh (up X3 p 4 (0 : Int32)) (fun X4 =>
    lh (up X4 p 5 (0 : Int32)) (fun X5 =>
    (rV X5 Y2)))))
set_option maxRecDepth 4000 in
theorem c_Pan_clear {K : KK} (hK : kOK K) (p : Nat) (hp : IsP p) (X : HI) (Y : HL) : CT K y_Pan_clear prog_5_method_2_code 1 none rm_Pan_clear [.ref p] X Y (f_Pan_clear p X Y) := by
  refine ct_of hK (L := [some (.ref p)]) (by decide) ⟨rfl, trivial⟩ (Nat.le_of_ble_eq_true rfl) ?_
  unfold f_Pan_clear
  refine j_aload_n (i := 0) (x := p) (q := 1) d_Pan_clear_0 rfl rfl rfl ?_
  refine j_iconst (v := 0) (q := 2) d_Pan_clear_1 (by decide) rfl ?_
  refine j_callVv (a := p) (S := []) (q := 5) [.int (0 : Int32)] d_Pan_clear_2 mw_Pan_emptyAllBut mv_Pan_emptyAllBut ml_Pan_32 (ob_P hp) rfl rfl (c_Pan_emptyAllBut hK p hp (0 : Int32) X Y) ⟨⟨rfl, rfl⟩, ⟨Nat.le_of_ble_eq_true rfl, Nat.le_of_ble_eq_true rfl⟩, ⟨Nat.le_refl 0, Nat.le_refl 0⟩⟩ (Nat.le_of_ble_eq_true rfl) rfl (fun X1 Y2 => ?_)
  refine j_aload_n (i := 0) (x := p) (q := 6) d_Pan_clear_5 rfl rfl rfl ?_
  refine j_iconst (v := 0) (q := 7) d_Pan_clear_6 (by decide) rfl ?_
  refine j_putI (q := 10) d_Pan_clear_7 fp_Pan_18 (fw_P3 hp) rfl (fun X3 => ?_)
  refine j_aload_n (i := 0) (x := p) (q := 11) d_Pan_clear_10 rfl rfl rfl ?_
  refine j_iconst (v := 0) (q := 12) d_Pan_clear_11 (by decide) rfl ?_
  refine j_putI (q := 15) d_Pan_clear_12 fp_Pan_22 (fw_P4 hp) rfl (fun X4 => ?_)
  refine j_aload_n (i := 0) (x := p) (q := 16) d_Pan_clear_15 rfl rfl rfl ?_
  refine j_iconst (v := 0) (q := 17) d_Pan_clear_16 (by decide) rfl ?_
  refine j_putI (q := 20) d_Pan_clear_17 fp_Pan_25 (fw_P5 hp) rfl (fun X5 => ?_)
  exact j_vret d_Pan_clear_20
def f_Pan_lay (p : Nat) (w : Nat) (x2 : Int32) (x3 : Int32) (X : HI) (Y : HL) : Option Out :=
    bi (f_Gro_hasPan x2 X Y) (fun r3 X1 Y2 =>
    (if r3 = 0 then
    (rV X1 Y2)
    else
    wr (ixb x2 6) (up X1 w x2.toNatClampNeg x3) (fun X4 =>
    (rV X4 Y2))))
set_option maxRecDepth 4000 in
theorem c_Pan_lay {K : KK} (hK : kOK K) (p : Nat) (w : Nat) (hp : IsP p) (hw : AI w 6) (x2 : Int32) (x3 : Int32) (X : HI) (Y : HL) : CT K y_Pan_lay prog_5_method_3_code 4 none rm_Pan_lay [.ref p, .ref w, .int x2, .int x3] X Y (f_Pan_lay p w x2 x3 X Y) := by
  refine ct_of hK (L := [some (.ref p), some (.ref w), some (.int x2), some (.int x3)]) (by decide) ⟨rfl, ⟨rfl, ⟨rfl, ⟨rfl, trivial⟩⟩⟩⟩ (Nat.le_of_ble_eq_true rfl) ?_
  unfold f_Pan_lay
  refine j_aload_n (i := 0) (x := p) (q := 1) d_Pan_lay_0 rfl rfl rfl ?_
  refine j_get (v := .ref 3) (q := 4) d_Pan_lay_1 fk_Pan_28 (fv_P0 hp) rfl ?_
  refine j_iload_n (i := 2) (x := x2) (q := 5) d_Pan_lay_4 rfl rfl rfl ?_
  refine j_callVNi (a := 3) (S := []) (q := 8) [.int x2] d_Pan_lay_5 mw_Gro_hasPan mv_Gro_hasPan ml_Pan_36 ob_3 rfl rfl (c_Gro_hasPan hK x2 X Y) ⟨⟨rfl, rfl⟩, ⟨Nat.le_of_ble_eq_true rfl, Nat.le_of_ble_eq_true rfl⟩, ⟨Nat.le_refl 0, Nat.le_refl 0⟩⟩ (Nat.le_of_ble_eq_true rfl) rfl (fun r3 X1 Y2 => ?_)
  refine j_if_eq (t := 15) (q := 11) d_Pan_lay_8 (by decide) rfl ?_ ?_
  · exact j_vret d_Pan_lay_15
  · refine j_aload_n (i := 1) (x := w) (q := 12) d_Pan_lay_11 rfl rfl rfl ?_
    refine j_iload_n (i := 2) (x := x2) (q := 13) d_Pan_lay_12 rfl rfl rfl ?_
    refine j_iload_n (i := 3) (x := x3) (q := 14) d_Pan_lay_13 rfl rfl rfl ?_
    refine j_iast (q := 15) d_Pan_lay_14 hw rfl (fun X4 => ?_)
    exact j_vret d_Pan_lay_15
def f_Pan_brineOf (p : Nat) (x1 : Int32) (X : HI) (Y : HL) : Option Out :=
    gd (ixb x1 6) (
    lt ((8 : Int32) * (X (p + 1) x1.toNatClampNeg)) (fun v1 =>
    gd (ixb x1 6) (
    (if v1 ≤ (X (p + 2) x1.toNatClampNeg) then
    (rI v1 X Y)
    else
    gd (ixb x1 6) (
    (rI (X (p + 2) x1.toNatClampNeg) X Y))))))
set_option maxRecDepth 4000 in
theorem c_Pan_brineOf {K : KK} (hK : kOK K) (p : Nat) (hp : IsP p) (x1 : Int32) (X : HI) (Y : HL) : CT K y_Pan_brineOf prog_5_method_6_code 3 (some .int) rm_Pan_brineOf [.ref p, .int x1] X Y (f_Pan_brineOf p x1 X Y) := by
  refine ct_of hK (L := [some (.ref p), some (.int x1), none]) (by decide) ⟨rfl, ⟨rfl, trivial⟩⟩ (Nat.le_of_ble_eq_true rfl) ?_
  unfold f_Pan_brineOf
  refine j_bipush (v := 8) (q := 2) d_Pan_brineOf_0 (by decide +kernel) rfl ?_
  refine j_aload_n (i := 0) (x := p) (q := 3) d_Pan_brineOf_2 rfl rfl rfl ?_
  refine j_get (v := .ref (p + 1)) (q := 6) d_Pan_brineOf_3 fk_Pan_9 (fv_P1 hp) rfl ?_
  refine j_iload_n (i := 1) (x := x1) (q := 7) d_Pan_brineOf_6 rfl rfl rfl ?_
  refine j_iald (q := 8) d_Pan_brineOf_7 (ai_P1 hp) rfl ?_
  refine j_imul (q := 9) d_Pan_brineOf_8 rfl ?_
  refine j_lt (fun v1 => ?_)
  refine j_istore_n (i := 2) (L' := [some (.ref p), some (.int x1), some (.int v1)]) (q := 10) d_Pan_brineOf_9 rfl (by decide) rfl rfl rfl ?_
  refine j_aload_n (i := 0) (x := p) (q := 11) d_Pan_brineOf_10 rfl rfl rfl ?_
  refine j_get (v := .ref (p + 2)) (q := 14) d_Pan_brineOf_11 fk_Pan_15 (fv_P2 hp) rfl ?_
  refine j_iload_n (i := 1) (x := x1) (q := 15) d_Pan_brineOf_14 rfl rfl rfl ?_
  refine j_iald (q := 16) d_Pan_brineOf_15 (ai_P2 hp) rfl ?_
  refine j_iload_n (i := 2) (x := v1) (q := 17) d_Pan_brineOf_16 rfl rfl rfl ?_
  refine j_icmp_ge (t := 29) (q := 20) d_Pan_brineOf_17 (by decide) rfl ?_ ?_
  · refine j_iload_n (i := 2) (x := v1) (q := 30) d_Pan_brineOf_29 rfl rfl rfl ?_
    exact j_iret d_Pan_brineOf_30
  · refine j_aload_n (i := 0) (x := p) (q := 21) d_Pan_brineOf_20 rfl rfl rfl ?_
    refine j_get (v := .ref (p + 2)) (q := 24) d_Pan_brineOf_21 fk_Pan_15 (fv_P2 hp) rfl ?_
    refine j_iload_n (i := 1) (x := x1) (q := 25) d_Pan_brineOf_24 rfl rfl rfl ?_
    refine j_iald (q := 26) d_Pan_brineOf_25 (ai_P2 hp) rfl ?_
    refine j_goto (q := 30) d_Pan_brineOf_26 (by decide) ?_
    exact j_iret d_Pan_brineOf_30
def f_Pan_crustOf (p : Nat) (x1 : Int32) (X : HI) (Y : HL) : Option Out :=
    gd (ixb x1 6) (
    bi (f_Pan_brineOf p x1 X Y) (fun r3 X1 Y2 =>
    (rI ((X (p + 2) x1.toNatClampNeg) - r3) X1 Y2)))
set_option maxRecDepth 4000 in
theorem c_Pan_crustOf {K : KK} (hK : kOK K) (p : Nat) (hp : IsP p) (x1 : Int32) (X : HI) (Y : HL) : CT K y_Pan_crustOf prog_5_method_7_code 2 (some .int) rm_Pan_crustOf [.ref p, .int x1] X Y (f_Pan_crustOf p x1 X Y) := by
  refine ct_of hK (L := [some (.ref p), some (.int x1)]) (by decide) ⟨rfl, ⟨rfl, trivial⟩⟩ (Nat.le_of_ble_eq_true rfl) ?_
  unfold f_Pan_crustOf
  refine j_aload_n (i := 0) (x := p) (q := 1) d_Pan_crustOf_0 rfl rfl rfl ?_
  refine j_get (v := .ref (p + 2)) (q := 4) d_Pan_crustOf_1 fk_Pan_15 (fv_P2 hp) rfl ?_
  refine j_iload_n (i := 1) (x := x1) (q := 5) d_Pan_crustOf_4 rfl rfl rfl ?_
  refine j_iald (q := 6) d_Pan_crustOf_5 (ai_P2 hp) rfl ?_
  refine j_aload_n (i := 0) (x := p) (q := 7) d_Pan_crustOf_6 rfl rfl rfl ?_
  refine j_iload_n (i := 1) (x := x1) (q := 8) d_Pan_crustOf_7 rfl rfl rfl ?_
  refine j_callVi (a := p) (S := [.int (X (p + 2) x1.toNatClampNeg)]) (q := 11) [.int x1] d_Pan_crustOf_8 mw_Pan_brineOf mv_Pan_brineOf ml_Pan_42 (ob_P hp) rfl rfl (c_Pan_brineOf hK p hp x1 X Y) ⟨⟨rfl, rfl⟩, ⟨Nat.le_of_ble_eq_true rfl, Nat.le_of_ble_eq_true rfl⟩, ⟨Nat.le_refl 0, Nat.le_refl 0⟩⟩ (Nat.le_of_ble_eq_true rfl) rfl (fun r3 X1 Y2 => ?_)
  refine j_isub (q := 12) d_Pan_crustOf_11 rfl ?_
  exact j_iret d_Pan_crustOf_12
def f_Pan_roomOf (p : Nat) (x1 : Int32) (X : HI) (Y : HL) : Option Out :=
    bi (f_Gro_depthOf x1 X Y) (fun r3 X1 Y2 =>
    gd (ixb x1 6) (
    (rI (r3 - (X1 (p + 1) x1.toNatClampNeg)) X1 Y2)))
set_option maxRecDepth 4000 in
theorem c_Pan_roomOf {K : KK} (hK : kOK K) (p : Nat) (hp : IsP p) (x1 : Int32) (X : HI) (Y : HL) : CT K y_Pan_roomOf prog_5_method_8_code 2 (some .int) rm_Pan_roomOf [.ref p, .int x1] X Y (f_Pan_roomOf p x1 X Y) := by
  refine ct_of hK (L := [some (.ref p), some (.int x1)]) (by decide) ⟨rfl, ⟨rfl, trivial⟩⟩ (Nat.le_of_ble_eq_true rfl) ?_
  unfold f_Pan_roomOf
  refine j_aload_n (i := 0) (x := p) (q := 1) d_Pan_roomOf_0 rfl rfl rfl ?_
  refine j_get (v := .ref 3) (q := 4) d_Pan_roomOf_1 fk_Pan_28 (fv_P0 hp) rfl ?_
  refine j_iload_n (i := 1) (x := x1) (q := 5) d_Pan_roomOf_4 rfl rfl rfl ?_
  refine j_callVNi (a := 3) (S := []) (q := 8) [.int x1] d_Pan_roomOf_5 mw_Gro_depthOf mv_Gro_depthOf ml_Pan_46 ob_3 rfl rfl (c_Gro_depthOf hK x1 X Y) ⟨⟨rfl, rfl⟩, ⟨Nat.le_of_ble_eq_true rfl, Nat.le_of_ble_eq_true rfl⟩, ⟨Nat.le_refl 0, Nat.le_refl 0⟩⟩ (Nat.le_of_ble_eq_true rfl) rfl (fun r3 X1 Y2 => ?_)
  refine j_aload_n (i := 0) (x := p) (q := 9) d_Pan_roomOf_8 rfl rfl rfl ?_
  refine j_get (v := .ref (p + 1)) (q := 12) d_Pan_roomOf_9 fk_Pan_9 (fv_P1 hp) rfl ?_
  refine j_iload_n (i := 1) (x := x1) (q := 13) d_Pan_roomOf_12 rfl rfl rfl ?_
  refine j_iald (q := 14) d_Pan_roomOf_13 (ai_P1 hp) rfl ?_
  refine j_isub (q := 15) d_Pan_roomOf_14 rfl ?_
  exact j_iret d_Pan_roomOf_15
def l_Pan_sumOf_4 (p : Nat) (w : Nat) (kx : Int32 → Int32 → HI → HL → Option Out) : Nat → Int32 → Int32 → HI → HL → Option Out
  | 0, _, _, _, _ => none
  | n + 1, m2, m3, X, Y =>
    (if (X 3 2) ≤ m3 then
    (kx m2 m3 X Y)
    else
    gd (ixb m3 6) (
    lt (m2 + (X w m3.toNatClampNeg)) (fun v1 =>
    (l_Pan_sumOf_4 p w kx n v1 (m3 + (1 : Int32)) X Y))))
def f_Pan_sumOf (p : Nat) (w : Nat) (X : HI) (Y : HL) : Option Out :=
    (l_Pan_sumOf_4 p w (fun w2 w3 X4 Y5 =>
    (rI w2 X4 Y5)) 256 (0 : Int32) (0 : Int32) X Y)
set_option maxRecDepth 4000 in
theorem jl_Pan_sumOf_4 {K : KK} (hK : kOK K) (p : Nat) (w : Nat) (hp : IsP p) (hw : AI w 6) (kx : Int32 → Int32 → HI → HL → Option Out) (hkx : ∀ (m2 : Int32) (m3 : Int32) (X : HI) (Y : HL), JO K "BrinePans$Pans" prog_5_method_9_code 4 (some .int) rm_Pan_sumOf 0 0 (MZ K) 27 [none, none, some (.int m2), none] [] X Y (kx m2 m3 X Y)) : ∀ (n : Nat) (m2 : Int32) (m3 : Int32) (X : HI) (Y : HL), JO K "BrinePans$Pans" prog_5_method_9_code 4 (some .int) rm_Pan_sumOf 0 0 (MZ K) 4 [some (.ref p), some (.ref w), some (.int m2), some (.int m3)] [] X Y (l_Pan_sumOf_4 p w kx n m2 m3 X Y) := by
  intro n
  induction n with
  | zero =>
    intro m2 m3 X Y
    rw [l_Pan_sumOf_4]
    exact j_none
  | succ n ih =>
    intro m2 m3 X Y
    rw [l_Pan_sumOf_4]
    refine j_iload_n (i := 3) (x := m3) (q := 5) d_Pan_sumOf_4 rfl rfl rfl ?_
    refine j_aload_n (i := 0) (x := p) (q := 6) d_Pan_sumOf_5 rfl rfl rfl ?_
    refine j_get (v := .ref 3) (q := 9) d_Pan_sumOf_6 fk_Pan_28 (fv_P0 hp) rfl ?_
    refine j_get (v := .int (X 3 2)) (q := 12) d_Pan_sumOf_9 fk_Pan_49 fv_3_2 rfl ?_
    refine j_icmp_ge (t := 27) (q := 15) d_Pan_sumOf_12 (by decide) rfl ?_ ?_
    · refine j_sub (L' := [none, none, some (.int m2), none]) ⟨rfl, trivial⟩ ?_
      exact hkx m2 m3 X Y
    · refine j_iload_n (i := 2) (x := m2) (q := 16) d_Pan_sumOf_15 rfl rfl rfl ?_
      refine j_aload_n (i := 1) (x := w) (q := 17) d_Pan_sumOf_16 rfl rfl rfl ?_
      refine j_iload_n (i := 3) (x := m3) (q := 18) d_Pan_sumOf_17 rfl rfl rfl ?_
      refine j_iald (q := 19) d_Pan_sumOf_18 hw rfl ?_
      refine j_iadd (q := 20) d_Pan_sumOf_19 rfl ?_
      refine j_lt (fun v1 => ?_)
      refine j_istore_n (i := 2) (L' := [some (.ref p), some (.ref w), some (.int v1), some (.int m3)]) (q := 21) d_Pan_sumOf_20 rfl (by decide) rfl rfl rfl ?_
      refine j_iinc (i := 3) (x := m3) (d := 1) (L' := [some (.ref p), some (.ref w), some (.int v1), some (.int (m3 + (1 : Int32)))]) (q := 24) d_Pan_sumOf_21 rfl (by decide) (by decide) rfl rfl rfl ?_
      refine j_goto (q := 4) d_Pan_sumOf_24 (by decide) ?_
      refine j_sub (L' := [some (.ref p), some (.ref w), some (.int v1), some (.int (m3 + (1 : Int32)))]) ⟨rfl, ⟨rfl, ⟨rfl, ⟨rfl, trivial⟩⟩⟩⟩ ?_
      exact ih v1 (m3 + (1 : Int32)) X Y
set_option maxRecDepth 4000 in
theorem c_Pan_sumOf {K : KK} (hK : kOK K) (p : Nat) (w : Nat) (hp : IsP p) (hw : AI w 6) (X : HI) (Y : HL) : CT K y_Pan_sumOf prog_5_method_9_code 4 (some .int) rm_Pan_sumOf [.ref p, .ref w] X Y (f_Pan_sumOf p w X Y) := by
  refine ct_of hK (L := [some (.ref p), some (.ref w), none, none]) (by decide) ⟨rfl, ⟨rfl, trivial⟩⟩ (Nat.le_of_ble_eq_true rfl) ?_
  unfold f_Pan_sumOf
  refine j_iconst (v := 0) (q := 1) d_Pan_sumOf_0 (by decide) rfl ?_
  refine j_istore_n (i := 2) (L' := [some (.ref p), some (.ref w), some (.int (0 : Int32)), none]) (q := 2) d_Pan_sumOf_1 rfl (by decide) rfl rfl rfl ?_
  refine j_iconst (v := 0) (q := 3) d_Pan_sumOf_2 (by decide) rfl ?_
  refine j_istore_n (i := 3) (L' := [some (.ref p), some (.ref w), some (.int (0 : Int32)), some (.int (0 : Int32))]) (q := 4) d_Pan_sumOf_3 rfl (by decide) rfl rfl rfl ?_
  refine j_sub (L' := [some (.ref p), some (.ref w), some (.int (0 : Int32)), some (.int (0 : Int32))]) ⟨rfl, ⟨rfl, ⟨rfl, ⟨rfl, trivial⟩⟩⟩⟩ ?_
  refine jl_Pan_sumOf_4 hK p w hp hw _ (fun w2 w3 X4 Y5 => ?_) 256 (0 : Int32) (0 : Int32) X Y
  refine j_iload_n (i := 2) (x := w2) (q := 28) d_Pan_sumOf_27 rfl rfl rfl ?_
  exact j_iret d_Pan_sumOf_28
def l_Pan_crustOfAll_4 (p : Nat) (kx : Int32 → Int32 → HI → HL → Option Out) : Nat → Int32 → Int32 → HI → HL → Option Out
  | 0, _, _, _, _ => none
  | n + 1, m1, m2, X, Y =>
    (if (X 3 2) ≤ m2 then
    (kx m1 m2 X Y)
    else
    bi (f_Pan_crustOf p m2 X Y) (fun r3 X1 Y2 =>
    lt (m1 + r3) (fun v4 =>
    (l_Pan_crustOfAll_4 p kx n v4 (m2 + (1 : Int32)) X1 Y2))))
def f_Pan_crustOfAll (p : Nat) (X : HI) (Y : HL) : Option Out :=
    (l_Pan_crustOfAll_4 p (fun w5 w6 X7 Y8 =>
    (rI w5 X7 Y8)) 256 (0 : Int32) (0 : Int32) X Y)
set_option maxRecDepth 4000 in
theorem jl_Pan_crustOfAll_4 {K : KK} (hK : kOK K) (p : Nat) (hp : IsP p) (kx : Int32 → Int32 → HI → HL → Option Out) (hkx : ∀ (m1 : Int32) (m2 : Int32) (X : HI) (Y : HL), JO K "BrinePans$Pans" prog_5_method_10_code 3 (some .int) rm_Pan_crustOfAll 0 0 (MZ K) 29 [none, some (.int m1), none] [] X Y (kx m1 m2 X Y)) : ∀ (n : Nat) (m1 : Int32) (m2 : Int32) (X : HI) (Y : HL), JO K "BrinePans$Pans" prog_5_method_10_code 3 (some .int) rm_Pan_crustOfAll 0 0 (MZ K) 4 [some (.ref p), some (.int m1), some (.int m2)] [] X Y (l_Pan_crustOfAll_4 p kx n m1 m2 X Y) := by
  intro n
  induction n with
  | zero =>
    intro m1 m2 X Y
    rw [l_Pan_crustOfAll_4]
    exact j_none
  | succ n ih =>
    intro m1 m2 X Y
    rw [l_Pan_crustOfAll_4]
    refine j_iload_n (i := 2) (x := m2) (q := 5) d_Pan_crustOfAll_4 rfl rfl rfl ?_
    refine j_aload_n (i := 0) (x := p) (q := 6) d_Pan_crustOfAll_5 rfl rfl rfl ?_
    refine j_get (v := .ref 3) (q := 9) d_Pan_crustOfAll_6 fk_Pan_28 (fv_P0 hp) rfl ?_
    refine j_get (v := .int (X 3 2)) (q := 12) d_Pan_crustOfAll_9 fk_Pan_49 fv_3_2 rfl ?_
    refine j_icmp_ge (t := 29) (q := 15) d_Pan_crustOfAll_12 (by decide) rfl ?_ ?_
    · refine j_sub (L' := [none, some (.int m1), none]) ⟨rfl, trivial⟩ ?_
      exact hkx m1 m2 X Y
    · refine j_iload_n (i := 1) (x := m1) (q := 16) d_Pan_crustOfAll_15 rfl rfl rfl ?_
      refine j_aload_n (i := 0) (x := p) (q := 17) d_Pan_crustOfAll_16 rfl rfl rfl ?_
      refine j_iload_n (i := 2) (x := m2) (q := 18) d_Pan_crustOfAll_17 rfl rfl rfl ?_
      refine j_callVi (a := p) (S := [.int m1]) (q := 21) [.int m2] d_Pan_crustOfAll_18 mw_Pan_crustOf mv_Pan_crustOf ml_Pan_52 (ob_P hp) rfl rfl (c_Pan_crustOf hK p hp m2 X Y) ⟨⟨rfl, rfl⟩, ⟨Nat.le_of_ble_eq_true rfl, Nat.le_of_ble_eq_true rfl⟩, ⟨Nat.le_refl 0, Nat.le_refl 0⟩⟩ (Nat.le_of_ble_eq_true rfl) rfl (fun r3 X1 Y2 => ?_)
      refine j_iadd (q := 22) d_Pan_crustOfAll_21 rfl ?_
      refine j_lt (fun v4 => ?_)
      refine j_istore_n (i := 1) (L' := [some (.ref p), some (.int v4), some (.int m2)]) (q := 23) d_Pan_crustOfAll_22 rfl (by decide) rfl rfl rfl ?_
      refine j_iinc (i := 2) (x := m2) (d := 1) (L' := [some (.ref p), some (.int v4), some (.int (m2 + (1 : Int32)))]) (q := 26) d_Pan_crustOfAll_23 rfl (by decide) (by decide) rfl rfl rfl ?_
      refine j_goto (q := 4) d_Pan_crustOfAll_26 (by decide) ?_
      refine j_sub (L' := [some (.ref p), some (.int v4), some (.int (m2 + (1 : Int32)))]) ⟨rfl, ⟨rfl, ⟨rfl, trivial⟩⟩⟩ ?_
      exact ih v4 (m2 + (1 : Int32)) X1 Y2
set_option maxRecDepth 4000 in
theorem c_Pan_crustOfAll {K : KK} (hK : kOK K) (p : Nat) (hp : IsP p) (X : HI) (Y : HL) : CT K y_Pan_crustOfAll prog_5_method_10_code 3 (some .int) rm_Pan_crustOfAll [.ref p] X Y (f_Pan_crustOfAll p X Y) := by
  refine ct_of hK (L := [some (.ref p), none, none]) (by decide) ⟨rfl, trivial⟩ (Nat.le_of_ble_eq_true rfl) ?_
  unfold f_Pan_crustOfAll
  refine j_iconst (v := 0) (q := 1) d_Pan_crustOfAll_0 (by decide) rfl ?_
  refine j_istore_n (i := 1) (L' := [some (.ref p), some (.int (0 : Int32)), none]) (q := 2) d_Pan_crustOfAll_1 rfl (by decide) rfl rfl rfl ?_
  refine j_iconst (v := 0) (q := 3) d_Pan_crustOfAll_2 (by decide) rfl ?_
  refine j_istore_n (i := 2) (L' := [some (.ref p), some (.int (0 : Int32)), some (.int (0 : Int32))]) (q := 4) d_Pan_crustOfAll_3 rfl (by decide) rfl rfl rfl ?_
  refine j_sub (L' := [some (.ref p), some (.int (0 : Int32)), some (.int (0 : Int32))]) ⟨rfl, ⟨rfl, ⟨rfl, trivial⟩⟩⟩ ?_
  refine jl_Pan_crustOfAll_4 hK p hp _ (fun w5 w6 X7 Y8 => ?_) 256 (0 : Int32) (0 : Int32) X Y
  refine j_iload_n (i := 1) (x := w5) (q := 30) d_Pan_crustOfAll_29 rfl rfl rfl ?_
  exact j_iret d_Pan_crustOfAll_30
def f_Pan_canRake (p : Nat) (x1 : Int32) (X : HI) (Y : HL) : Option Out :=
    gd (ixb x1 6) (
    (if (1 : Int32) < (X (p + 1) x1.toNatClampNeg) then
    (rI (0 : Int32) X Y)
    else
    bi (f_Pan_crustOf p x1 X Y) (fun r3 X1 Y2 =>
    (if r3 ≤ 0 then
    (rI (0 : Int32) X1 Y2)
    else
    (rI (1 : Int32) X1 Y2)))))
set_option maxRecDepth 4000 in
theorem c_Pan_canRake {K : KK} (hK : kOK K) (p : Nat) (hp : IsP p) (x1 : Int32) (X : HI) (Y : HL) : CT K y_Pan_canRake prog_5_method_11_code 2 (some .boolean) rm_Pan_canRake [.ref p, .int x1] X Y (f_Pan_canRake p x1 X Y) := by
  refine ct_of hK (L := [some (.ref p), some (.int x1)]) (by decide) ⟨rfl, ⟨rfl, trivial⟩⟩ (Nat.le_of_ble_eq_true rfl) ?_
  unfold f_Pan_canRake
  refine j_aload_n (i := 0) (x := p) (q := 1) d_Pan_canRake_0 rfl rfl rfl ?_
  refine j_get (v := .ref (p + 1)) (q := 4) d_Pan_canRake_1 fk_Pan_9 (fv_P1 hp) rfl ?_
  refine j_iload_n (i := 1) (x := x1) (q := 5) d_Pan_canRake_4 rfl rfl rfl ?_
  refine j_iald (q := 6) d_Pan_canRake_5 (ai_P1 hp) rfl ?_
  refine j_iconst (v := 1) (q := 7) d_Pan_canRake_6 (by decide) rfl ?_
  refine j_icmp_gt (t := 22) (q := 10) d_Pan_canRake_7 (by decide) rfl ?_ ?_
  · refine j_iconst (v := 0) (q := 23) d_Pan_canRake_22 (by decide) rfl ?_
    exact j_zret d_Pan_canRake_23 (by decide)
  · refine j_aload_n (i := 0) (x := p) (q := 11) d_Pan_canRake_10 rfl rfl rfl ?_
    refine j_iload_n (i := 1) (x := x1) (q := 12) d_Pan_canRake_11 rfl rfl rfl ?_
    refine j_callVi (a := p) (S := []) (q := 15) [.int x1] d_Pan_canRake_12 mw_Pan_crustOf mv_Pan_crustOf ml_Pan_52 (ob_P hp) rfl rfl (c_Pan_crustOf hK p hp x1 X Y) ⟨⟨rfl, rfl⟩, ⟨Nat.le_of_ble_eq_true rfl, Nat.le_of_ble_eq_true rfl⟩, ⟨Nat.le_refl 0, Nat.le_refl 0⟩⟩ (Nat.le_of_ble_eq_true rfl) rfl (fun r3 X1 Y2 => ?_)
    refine j_if_le (t := 22) (q := 18) d_Pan_canRake_15 (by decide) rfl ?_ ?_
    · refine j_iconst (v := 0) (q := 23) d_Pan_canRake_22 (by decide) rfl ?_
      exact j_zret d_Pan_canRake_23 (by decide)
    · refine j_iconst (v := 1) (q := 19) d_Pan_canRake_18 (by decide) rfl ?_
      refine j_goto (q := 23) d_Pan_canRake_19 (by decide) ?_
      exact j_zret d_Pan_canRake_23 (by decide)
def b_Pan_rakeable_29 (p : Nat) (kc : Int32 → Int32 → HI → HL → Option Out) (kx : Int32 → Int32 → HI → HL → Option Out) (x1 : Int32) (x2 : Int32) (X : HI) (Y : HL) : Option Out :=
    (kc x1 (x2 + (1 : Int32)) X Y)
def l_Pan_rakeable_4 (p : Nat) (kx : Int32 → Int32 → HI → HL → Option Out) : Nat → Int32 → Int32 → HI → HL → Option Out
  | 0, _, _, _, _ => none
  | n + 1, m1, m2, X, Y =>
    (if (X 3 2) ≤ m2 then
    (kx m1 m2 X Y)
    else
    bi (f_Pan_canRake p m2 X Y) (fun r3 X1 Y2 =>
    (if r3 = 0 then
    (b_Pan_rakeable_29 p (fun a1 a2 A B => l_Pan_rakeable_4 p kx n a1 a2 A B) kx m1 m2 X1 Y2)
    else
    lt (m1 ||| ((1 : Int32) <<< (m2 &&& 31))) (fun v4 =>
    (b_Pan_rakeable_29 p (fun a1 a2 A B => l_Pan_rakeable_4 p kx n a1 a2 A B) kx v4 m2 X1 Y2)))))
def f_Pan_rakeable (p : Nat) (X : HI) (Y : HL) : Option Out :=
    (l_Pan_rakeable_4 p (fun w5 w6 X7 Y8 =>
    (rI w5 X7 Y8)) 256 (0 : Int32) (0 : Int32) X Y)
set_option maxRecDepth 4000 in
theorem jb_Pan_rakeable_29 {K : KK} (hK : kOK K) (p : Nat) (hp : IsP p) (kc : Int32 → Int32 → HI → HL → Option Out) (kx : Int32 → Int32 → HI → HL → Option Out) (x1 : Int32) (x2 : Int32) (hkc : ∀ (m1 : Int32) (m2 : Int32) (X : HI) (Y : HL), JO K "BrinePans$Pans" prog_5_method_12_code 3 (some .int) rm_Pan_rakeable 0 0 (MZ K) 4 [some (.ref p), some (.int m1), some (.int m2)] [] X Y (kc m1 m2 X Y)) (hkx : ∀ (m1 : Int32) (m2 : Int32) (X : HI) (Y : HL), JO K "BrinePans$Pans" prog_5_method_12_code 3 (some .int) rm_Pan_rakeable 0 0 (MZ K) 35 [none, some (.int m1), none] [] X Y (kx m1 m2 X Y)) (X : HI) (Y : HL) : JO K "BrinePans$Pans" prog_5_method_12_code 3 (some .int) rm_Pan_rakeable 0 0 (MZ K) 29 [some (.ref p), some (.int x1), some (.int x2)] [] X Y (b_Pan_rakeable_29 p kc kx x1 x2 X Y) := by
  unfold b_Pan_rakeable_29
  refine j_iinc (i := 2) (x := x2) (d := 1) (L' := [some (.ref p), some (.int x1), some (.int (x2 + (1 : Int32)))]) (q := 32) d_Pan_rakeable_29 rfl (by decide) (by decide) rfl rfl rfl ?_
  refine j_goto (q := 4) d_Pan_rakeable_32 (by decide) ?_
  refine j_sub (L' := [some (.ref p), some (.int x1), some (.int (x2 + (1 : Int32)))]) ⟨rfl, ⟨rfl, ⟨rfl, trivial⟩⟩⟩ ?_
  exact hkc x1 (x2 + (1 : Int32)) X Y
set_option maxRecDepth 4000 in
theorem jl_Pan_rakeable_4 {K : KK} (hK : kOK K) (p : Nat) (hp : IsP p) (kx : Int32 → Int32 → HI → HL → Option Out) (hkx : ∀ (m1 : Int32) (m2 : Int32) (X : HI) (Y : HL), JO K "BrinePans$Pans" prog_5_method_12_code 3 (some .int) rm_Pan_rakeable 0 0 (MZ K) 35 [none, some (.int m1), none] [] X Y (kx m1 m2 X Y)) : ∀ (n : Nat) (m1 : Int32) (m2 : Int32) (X : HI) (Y : HL), JO K "BrinePans$Pans" prog_5_method_12_code 3 (some .int) rm_Pan_rakeable 0 0 (MZ K) 4 [some (.ref p), some (.int m1), some (.int m2)] [] X Y (l_Pan_rakeable_4 p kx n m1 m2 X Y) := by
  intro n
  induction n with
  | zero =>
    intro m1 m2 X Y
    rw [l_Pan_rakeable_4]
    exact j_none
  | succ n ih =>
    intro m1 m2 X Y
    rw [l_Pan_rakeable_4]
    refine j_iload_n (i := 2) (x := m2) (q := 5) d_Pan_rakeable_4 rfl rfl rfl ?_
    refine j_aload_n (i := 0) (x := p) (q := 6) d_Pan_rakeable_5 rfl rfl rfl ?_
    refine j_get (v := .ref 3) (q := 9) d_Pan_rakeable_6 fk_Pan_28 (fv_P0 hp) rfl ?_
    refine j_get (v := .int (X 3 2)) (q := 12) d_Pan_rakeable_9 fk_Pan_49 fv_3_2 rfl ?_
    refine j_icmp_ge (t := 35) (q := 15) d_Pan_rakeable_12 (by decide) rfl ?_ ?_
    · refine j_sub (L' := [none, some (.int m1), none]) ⟨rfl, trivial⟩ ?_
      exact hkx m1 m2 X Y
    · refine j_aload_n (i := 0) (x := p) (q := 16) d_Pan_rakeable_15 rfl rfl rfl ?_
      refine j_iload_n (i := 2) (x := m2) (q := 17) d_Pan_rakeable_16 rfl rfl rfl ?_
      refine j_callVi (a := p) (S := []) (q := 20) [.int m2] d_Pan_rakeable_17 mw_Pan_canRake mv_Pan_canRake ml_Pan_55 (ob_P hp) rfl rfl (c_Pan_canRake hK p hp m2 X Y) ⟨⟨rfl, rfl⟩, ⟨Nat.le_of_ble_eq_true rfl, Nat.le_of_ble_eq_true rfl⟩, ⟨Nat.le_refl 0, Nat.le_refl 0⟩⟩ (Nat.le_of_ble_eq_true rfl) rfl (fun r3 X1 Y2 => ?_)
      refine j_if_eq (t := 29) (q := 23) d_Pan_rakeable_20 (by decide) rfl ?_ ?_
      · refine j_sub (L' := [some (.ref p), some (.int m1), some (.int m2)]) ⟨rfl, ⟨rfl, ⟨rfl, trivial⟩⟩⟩ ?_
        exact jb_Pan_rakeable_29 hK p hp (fun a1 a2 A B => l_Pan_rakeable_4 p kx n a1 a2 A B) kx m1 m2 ih hkx X1 Y2
      · refine j_iload_n (i := 1) (x := m1) (q := 24) d_Pan_rakeable_23 rfl rfl rfl ?_
        refine j_iconst (v := 1) (q := 25) d_Pan_rakeable_24 (by decide) rfl ?_
        refine j_iload_n (i := 2) (x := m2) (q := 26) d_Pan_rakeable_25 rfl rfl rfl ?_
        refine j_ishl (q := 27) d_Pan_rakeable_26 rfl ?_
        refine j_ior (q := 28) d_Pan_rakeable_27 rfl ?_
        refine j_lt (fun v4 => ?_)
        refine j_istore_n (i := 1) (L' := [some (.ref p), some (.int v4), some (.int m2)]) (q := 29) d_Pan_rakeable_28 rfl (by decide) rfl rfl rfl ?_
        refine j_sub (L' := [some (.ref p), some (.int v4), some (.int m2)]) ⟨rfl, ⟨rfl, ⟨rfl, trivial⟩⟩⟩ ?_
        exact jb_Pan_rakeable_29 hK p hp (fun a1 a2 A B => l_Pan_rakeable_4 p kx n a1 a2 A B) kx v4 m2 ih hkx X1 Y2
set_option maxRecDepth 4000 in
theorem c_Pan_rakeable {K : KK} (hK : kOK K) (p : Nat) (hp : IsP p) (X : HI) (Y : HL) : CT K y_Pan_rakeable prog_5_method_12_code 3 (some .int) rm_Pan_rakeable [.ref p] X Y (f_Pan_rakeable p X Y) := by
  refine ct_of hK (L := [some (.ref p), none, none]) (by decide) ⟨rfl, trivial⟩ (Nat.le_of_ble_eq_true rfl) ?_
  unfold f_Pan_rakeable
  refine j_iconst (v := 0) (q := 1) d_Pan_rakeable_0 (by decide) rfl ?_
  refine j_istore_n (i := 1) (L' := [some (.ref p), some (.int (0 : Int32)), none]) (q := 2) d_Pan_rakeable_1 rfl (by decide) rfl rfl rfl ?_
  refine j_iconst (v := 0) (q := 3) d_Pan_rakeable_2 (by decide) rfl ?_
  refine j_istore_n (i := 2) (L' := [some (.ref p), some (.int (0 : Int32)), some (.int (0 : Int32))]) (q := 4) d_Pan_rakeable_3 rfl (by decide) rfl rfl rfl ?_
  refine j_sub (L' := [some (.ref p), some (.int (0 : Int32)), some (.int (0 : Int32))]) ⟨rfl, ⟨rfl, ⟨rfl, trivial⟩⟩⟩ ?_
  refine jl_Pan_rakeable_4 hK p hp _ (fun w5 w6 X7 Y8 => ?_) 256 (0 : Int32) (0 : Int32) X Y
  refine j_iload_n (i := 1) (x := w5) (q := 36) d_Pan_rakeable_35 rfl rfl rfl ?_
  exact j_iret d_Pan_rakeable_36
def f_Pan_isOpen (p : Nat) (x1 : Int32) (X : HI) (Y : HL) : Option Out :=
    (if (((X p 3) >>> (x1 &&& 31)) &&& (1 : Int32)) = (1 : Int32) then
    (rI (1 : Int32) X Y)
    else
    (rI (0 : Int32) X Y))
set_option maxRecDepth 4000 in
theorem c_Pan_isOpen {K : KK} (hK : kOK K) (p : Nat) (hp : IsP p) (x1 : Int32) (X : HI) (Y : HL) : CT K y_Pan_isOpen prog_5_method_13_code 2 (some .boolean) rm_Pan_isOpen [.ref p, .int x1] X Y (f_Pan_isOpen p x1 X Y) := by
  refine ct_of hK (L := [some (.ref p), some (.int x1)]) (by decide) ⟨rfl, ⟨rfl, trivial⟩⟩ (Nat.le_of_ble_eq_true rfl) ?_
  unfold f_Pan_isOpen
  refine j_aload_n (i := 0) (x := p) (q := 1) d_Pan_isOpen_0 rfl rfl rfl ?_
  refine j_get (v := .int (X p 3)) (q := 4) d_Pan_isOpen_1 fk_Pan_18 (fv_P3 hp) rfl ?_
  refine j_iload_n (i := 1) (x := x1) (q := 5) d_Pan_isOpen_4 rfl rfl rfl ?_
  refine j_ishr (q := 6) d_Pan_isOpen_5 rfl ?_
  refine j_iconst (v := 1) (q := 7) d_Pan_isOpen_6 (by decide) rfl ?_
  refine j_iand (q := 8) d_Pan_isOpen_7 rfl ?_
  refine j_iconst (v := 1) (q := 9) d_Pan_isOpen_8 (by decide) rfl ?_
  refine j_icmp_ne (t := 16) (q := 12) d_Pan_isOpen_9 (by decide) rfl ?_ ?_
  · refine j_iconst (v := 0) (q := 17) d_Pan_isOpen_16 (by decide) rfl ?_
    exact j_zret d_Pan_isOpen_17 (by decide)
  · refine j_iconst (v := 1) (q := 13) d_Pan_isOpen_12 (by decide) rfl ?_
    refine j_goto (q := 17) d_Pan_isOpen_13 (by decide) ?_
    exact j_zret d_Pan_isOpen_17 (by decide)
def f_Pan_setGate (p : Nat) (x1 : Int32) (x2 : Int32) (X : HI) (Y : HL) : Option Out :=
    bi (f_Pan_isOpen p x1 X Y) (fun r3 X1 Y2 =>
    (if r3 = x2 then
    (rV X1 Y2)
    else
    lh (up X1 p 3 ((X1 p 3) ^^^ ((1 : Int32) <<< (x1 &&& 31)))) (fun X4 =>
    (rV X4 Y2))))
set_option maxRecDepth 4000 in
theorem c_Pan_setGate {K : KK} (hK : kOK K) (p : Nat) (hp : IsP p) (x1 : Int32) (x2 : Int32) (X : HI) (Y : HL) : CT K y_Pan_setGate prog_5_method_14_code 3 none rm_Pan_setGate [.ref p, .int x1, .int x2] X Y (f_Pan_setGate p x1 x2 X Y) := by
  refine ct_of hK (L := [some (.ref p), some (.int x1), some (.int x2)]) (by decide) ⟨rfl, ⟨rfl, ⟨rfl, trivial⟩⟩⟩ (Nat.le_of_ble_eq_true rfl) ?_
  unfold f_Pan_setGate
  refine j_aload_n (i := 0) (x := p) (q := 1) d_Pan_setGate_0 rfl rfl rfl ?_
  refine j_iload_n (i := 1) (x := x1) (q := 2) d_Pan_setGate_1 rfl rfl rfl ?_
  refine j_callVi (a := p) (S := []) (q := 5) [.int x1] d_Pan_setGate_2 mw_Pan_isOpen mv_Pan_isOpen ml_Pan_58 (ob_P hp) rfl rfl (c_Pan_isOpen hK p hp x1 X Y) ⟨⟨rfl, rfl⟩, ⟨Nat.le_of_ble_eq_true rfl, Nat.le_of_ble_eq_true rfl⟩, ⟨Nat.le_refl 0, Nat.le_refl 0⟩⟩ (Nat.le_of_ble_eq_true rfl) rfl (fun r3 X1 Y2 => ?_)
  refine j_iload_n (i := 2) (x := x2) (q := 6) d_Pan_setGate_5 rfl rfl rfl ?_
  refine j_icmp_eq (t := 21) (q := 9) d_Pan_setGate_6 (by decide) rfl ?_ ?_
  · exact j_vret d_Pan_setGate_21
  · refine j_aload_n (i := 0) (x := p) (q := 10) d_Pan_setGate_9 rfl rfl rfl ?_
    refine j_dup (q := 11) d_Pan_setGate_10 rfl rfl ?_
    refine j_get (v := .int (X1 p 3)) (q := 14) d_Pan_setGate_11 fk_Pan_18 (fv_P3 hp) rfl ?_
    refine j_iconst (v := 1) (q := 15) d_Pan_setGate_14 (by decide) rfl ?_
    refine j_iload_n (i := 1) (x := x1) (q := 16) d_Pan_setGate_15 rfl rfl rfl ?_
    refine j_ishl (q := 17) d_Pan_setGate_16 rfl ?_
    refine j_ixor (q := 18) d_Pan_setGate_17 rfl ?_
    refine j_putI (q := 21) d_Pan_setGate_18 fp_Pan_18 (fw_P3 hp) rfl (fun X4 => ?_)
    exact j_vret d_Pan_setGate_21
def f_Pan_drain (p : Nat) (x1 : Int32) (x2 : Int32) (X : HI) (Y : HL) : Option Out :=
    (if x2 < (1 : Int32) then
    (rI (0 : Int32) X Y)
    else
    gd (ixb x1 6) (
    (if x2 ≤ (X (p + 1) x1.toNatClampNeg) then
    bi (f_Pan_brineOf p x1 X Y) (fun r3 X1 Y2 =>
    gd (ixb x1 6) (
    gd (nzb (X1 (p + 1) x1.toNatClampNeg)) (
    lt ((r3 * x2) / (X1 (p + 1) x1.toNatClampNeg)) (fun v4 =>
    gd (ixb x1 6) (
    wr (ixb x1 6) (up X1 (p + 1) x1.toNatClampNeg ((X1 (p + 1) x1.toNatClampNeg) - x2)) (fun X5 =>
    gd (ixb x1 6) (
    wr (ixb x1 6) (up X5 (p + 2) x1.toNatClampNeg ((X5 (p + 2) x1.toNatClampNeg) - v4)) (fun X6 =>
    (rI v4 X6 Y2)))))))))
    else
    (rI (0 : Int32) X Y))))
set_option maxRecDepth 4000 in
theorem c_Pan_drain {K : KK} (hK : kOK K) (p : Nat) (hp : IsP p) (x1 : Int32) (x2 : Int32) (X : HI) (Y : HL) : CT K y_Pan_drain prog_5_method_15_code 4 (some .int) rm_Pan_drain [.ref p, .int x1, .int x2] X Y (f_Pan_drain p x1 x2 X Y) := by
  refine ct_of hK (L := [some (.ref p), some (.int x1), some (.int x2), none]) (by decide) ⟨rfl, ⟨rfl, ⟨rfl, trivial⟩⟩⟩ (Nat.le_of_ble_eq_true rfl) ?_
  unfold f_Pan_drain
  refine j_iload_n (i := 2) (x := x2) (q := 1) d_Pan_drain_0 rfl rfl rfl ?_
  refine j_iconst (v := 1) (q := 2) d_Pan_drain_1 (by decide) rfl ?_
  refine j_icmp_lt (t := 15) (q := 5) d_Pan_drain_2 (by decide) rfl ?_ ?_
  · refine j_iconst (v := 0) (q := 16) d_Pan_drain_15 (by decide) rfl ?_
    exact j_iret d_Pan_drain_16
  · refine j_aload_n (i := 0) (x := p) (q := 6) d_Pan_drain_5 rfl rfl rfl ?_
    refine j_get (v := .ref (p + 1)) (q := 9) d_Pan_drain_6 fk_Pan_9 (fv_P1 hp) rfl ?_
    refine j_iload_n (i := 1) (x := x1) (q := 10) d_Pan_drain_9 rfl rfl rfl ?_
    refine j_iald (q := 11) d_Pan_drain_10 (ai_P1 hp) rfl ?_
    refine j_iload_n (i := 2) (x := x2) (q := 12) d_Pan_drain_11 rfl rfl rfl ?_
    refine j_icmp_ge (t := 17) (q := 15) d_Pan_drain_12 (by decide) rfl ?_ ?_
    · refine j_aload_n (i := 0) (x := p) (q := 18) d_Pan_drain_17 rfl rfl rfl ?_
      refine j_iload_n (i := 1) (x := x1) (q := 19) d_Pan_drain_18 rfl rfl rfl ?_
      refine j_callVi (a := p) (S := []) (q := 22) [.int x1] d_Pan_drain_19 mw_Pan_brineOf mv_Pan_brineOf ml_Pan_42 (ob_P hp) rfl rfl (c_Pan_brineOf hK p hp x1 X Y) ⟨⟨rfl, rfl⟩, ⟨Nat.le_of_ble_eq_true rfl, Nat.le_of_ble_eq_true rfl⟩, ⟨Nat.le_refl 0, Nat.le_refl 0⟩⟩ (Nat.le_of_ble_eq_true rfl) rfl (fun r3 X1 Y2 => ?_)
      refine j_iload_n (i := 2) (x := x2) (q := 23) d_Pan_drain_22 rfl rfl rfl ?_
      refine j_imul (q := 24) d_Pan_drain_23 rfl ?_
      refine j_aload_n (i := 0) (x := p) (q := 25) d_Pan_drain_24 rfl rfl rfl ?_
      refine j_get (v := .ref (p + 1)) (q := 28) d_Pan_drain_25 fk_Pan_9 (fv_P1 hp) rfl ?_
      refine j_iload_n (i := 1) (x := x1) (q := 29) d_Pan_drain_28 rfl rfl rfl ?_
      refine j_iald (q := 30) d_Pan_drain_29 (ai_P1 hp) rfl ?_
      refine j_idiv (q := 31) d_Pan_drain_30 rfl ?_
      refine j_lt (fun v4 => ?_)
      refine j_istore_n (i := 3) (L' := [some (.ref p), some (.int x1), some (.int x2), some (.int v4)]) (q := 32) d_Pan_drain_31 rfl (by decide) rfl rfl rfl ?_
      refine j_aload_n (i := 0) (x := p) (q := 33) d_Pan_drain_32 rfl rfl rfl ?_
      refine j_get (v := .ref (p + 1)) (q := 36) d_Pan_drain_33 fk_Pan_9 (fv_P1 hp) rfl ?_
      refine j_iload_n (i := 1) (x := x1) (q := 37) d_Pan_drain_36 rfl rfl rfl ?_
      refine j_dup2 (q := 38) d_Pan_drain_37 rfl rfl rfl ?_
      refine j_iald (q := 39) d_Pan_drain_38 (ai_P1 hp) rfl ?_
      refine j_iload_n (i := 2) (x := x2) (q := 40) d_Pan_drain_39 rfl rfl rfl ?_
      refine j_isub (q := 41) d_Pan_drain_40 rfl ?_
      refine j_iast (q := 42) d_Pan_drain_41 (ai_P1 hp) rfl (fun X5 => ?_)
      refine j_aload_n (i := 0) (x := p) (q := 43) d_Pan_drain_42 rfl rfl rfl ?_
      refine j_get (v := .ref (p + 2)) (q := 46) d_Pan_drain_43 fk_Pan_15 (fv_P2 hp) rfl ?_
      refine j_iload_n (i := 1) (x := x1) (q := 47) d_Pan_drain_46 rfl rfl rfl ?_
      refine j_dup2 (q := 48) d_Pan_drain_47 rfl rfl rfl ?_
      refine j_iald (q := 49) d_Pan_drain_48 (ai_P2 hp) rfl ?_
      refine j_iload_n (i := 3) (x := v4) (q := 50) d_Pan_drain_49 rfl rfl rfl ?_
      refine j_isub (q := 51) d_Pan_drain_50 rfl ?_
      refine j_iast (q := 52) d_Pan_drain_51 (ai_P2 hp) rfl (fun X6 => ?_)
      refine j_iload_n (i := 3) (x := v4) (q := 53) d_Pan_drain_52 rfl rfl rfl ?_
      exact j_iret d_Pan_drain_53
    · refine j_iconst (v := 0) (q := 16) d_Pan_drain_15 (by decide) rfl ?_
      exact j_iret d_Pan_drain_16
def f_Pan_fill (p : Nat) (x1 : Int32) (x2 : Int32) (x3 : Int32) (X : HI) (Y : HL) : Option Out :=
    gd (ixb x1 6) (
    wr (ixb x1 6) (up X (p + 1) x1.toNatClampNeg ((X (p + 1) x1.toNatClampNeg) + x2)) (fun X1 =>
    gd (ixb x1 6) (
    wr (ixb x1 6) (up X1 (p + 2) x1.toNatClampNeg (if ((X1 (p + 2) x1.toNatClampNeg) + x3) < (999 : Int32) then ((X1 (p + 2) x1.toNatClampNeg) + x3) else (999 : Int32))) (fun X2 =>
    (rV X2 Y)))))
set_option maxRecDepth 4000 in
theorem c_Pan_fill {K : KK} (hK : kOK K) (p : Nat) (hp : IsP p) (x1 : Int32) (x2 : Int32) (x3 : Int32) (X : HI) (Y : HL) : CT K y_Pan_fill prog_5_method_16_code 4 none rm_Pan_fill [.ref p, .int x1, .int x2, .int x3] X Y (f_Pan_fill p x1 x2 x3 X Y) := by
  refine ct_of hK (L := [some (.ref p), some (.int x1), some (.int x2), some (.int x3)]) (by decide) ⟨rfl, ⟨rfl, ⟨rfl, ⟨rfl, trivial⟩⟩⟩⟩ (Nat.le_of_ble_eq_true rfl) ?_
  unfold f_Pan_fill
  refine j_aload_n (i := 0) (x := p) (q := 1) d_Pan_fill_0 rfl rfl rfl ?_
  refine j_get (v := .ref (p + 1)) (q := 4) d_Pan_fill_1 fk_Pan_9 (fv_P1 hp) rfl ?_
  refine j_iload_n (i := 1) (x := x1) (q := 5) d_Pan_fill_4 rfl rfl rfl ?_
  refine j_dup2 (q := 6) d_Pan_fill_5 rfl rfl rfl ?_
  refine j_iald (q := 7) d_Pan_fill_6 (ai_P1 hp) rfl ?_
  refine j_iload_n (i := 2) (x := x2) (q := 8) d_Pan_fill_7 rfl rfl rfl ?_
  refine j_iadd (q := 9) d_Pan_fill_8 rfl ?_
  refine j_iast (q := 10) d_Pan_fill_9 (ai_P1 hp) rfl (fun X1 => ?_)
  refine j_aload_n (i := 0) (x := p) (q := 11) d_Pan_fill_10 rfl rfl rfl ?_
  refine j_get (v := .ref (p + 2)) (q := 14) d_Pan_fill_11 fk_Pan_15 (fv_P2 hp) rfl ?_
  refine j_iload_n (i := 1) (x := x1) (q := 15) d_Pan_fill_14 rfl rfl rfl ?_
  refine j_sipush (v := 999) (q := 18) d_Pan_fill_15 (by decide +kernel) rfl ?_
  refine j_aload_n (i := 0) (x := p) (q := 19) d_Pan_fill_18 rfl rfl rfl ?_
  refine j_get (v := .ref (p + 2)) (q := 22) d_Pan_fill_19 fk_Pan_15 (fv_P2 hp) rfl ?_
  refine j_iload_n (i := 1) (x := x1) (q := 23) d_Pan_fill_22 rfl rfl rfl ?_
  refine j_iald (q := 24) d_Pan_fill_23 (ai_P2 hp) rfl ?_
  refine j_iload_n (i := 3) (x := x3) (q := 25) d_Pan_fill_24 rfl rfl rfl ?_
  refine j_iadd (q := 26) d_Pan_fill_25 rfl ?_
  refine j_mmin (S := [.int x1, .ref (p + 2)]) (q := 29) d_Pan_fill_26 (gw_t 328 (by decide +kernel) (by decide +kernel)) ⟨Nat.le_of_ble_eq_true rfl, Nat.le_of_ble_eq_true rfl, Nat.le_refl 0, Nat.le_refl 0⟩ rfl ?_
  refine j_iast (q := 30) d_Pan_fill_29 (ai_P2 hp) rfl (fun X2 => ?_)
  exact j_vret d_Pan_fill_30
def f_Bri_isFromTo (x0 : Int32) (x1 : Int32) (x2 : Int32) (X : HI) (Y : HL) : Option Out :=
    (if x0 < x1 then
    (rI (0 : Int32) X Y)
    else
    (if x2 < x0 then
    (rI (0 : Int32) X Y)
    else
    (rI (1 : Int32) X Y)))
set_option maxRecDepth 4000 in
theorem c_Bri_isFromTo {K : KK} (hK : kOK K) (x0 : Int32) (x1 : Int32) (x2 : Int32) (X : HI) (Y : HL) : CT K y_Bri_isFromTo prog_1_method_35_code 3 (some .boolean) rm_Bri_isFromTo [.int x0, .int x1, .int x2] X Y (f_Bri_isFromTo x0 x1 x2 X Y) := by
  refine ct_of hK (L := [some (.int x0), some (.int x1), some (.int x2)]) (by decide) ⟨rfl, ⟨rfl, ⟨rfl, trivial⟩⟩⟩ (Nat.le_of_ble_eq_true rfl) ?_
  unfold f_Bri_isFromTo
  refine j_iload_n (i := 0) (x := x0) (q := 1) d_Bri_isFromTo_0 rfl rfl rfl ?_
  refine j_iload_n (i := 1) (x := x1) (q := 2) d_Bri_isFromTo_1 rfl rfl rfl ?_
  refine j_icmp_lt (t := 14) (q := 5) d_Bri_isFromTo_2 (by decide) rfl ?_ ?_
  · refine j_iconst (v := 0) (q := 15) d_Bri_isFromTo_14 (by decide) rfl ?_
    exact j_zret d_Bri_isFromTo_15 (by decide)
  · refine j_iload_n (i := 0) (x := x0) (q := 6) d_Bri_isFromTo_5 rfl rfl rfl ?_
    refine j_iload_n (i := 2) (x := x2) (q := 7) d_Bri_isFromTo_6 rfl rfl rfl ?_
    refine j_icmp_gt (t := 14) (q := 10) d_Bri_isFromTo_7 (by decide) rfl ?_ ?_
    · refine j_iconst (v := 0) (q := 15) d_Bri_isFromTo_14 (by decide) rfl ?_
      exact j_zret d_Bri_isFromTo_15 (by decide)
    · refine j_iconst (v := 1) (q := 11) d_Bri_isFromTo_10 (by decide) rfl ?_
      refine j_goto (q := 15) d_Bri_isFromTo_11 (by decide) ?_
      exact j_zret d_Bri_isFromTo_15 (by decide)
def f_Pan_takeSea (p : Nat) (x1 : Int32) (X : HI) (Y : HL) : Option Out :=
    bi (f_Gro_hasPan (0 : Int32) X Y) (fun r3 X1 Y2 =>
    (if r3 = 0 then
    (rI (-1 : Int32) X1 Y2)
    else
    bi (f_Bri_isFromTo x1 (1 : Int32) (9 : Int32) X1 Y2) (fun r6 X4 Y5 =>
    (if r6 = 0 then
    (rI (-2 : Int32) X4 Y5)
    else
    bi (f_Pan_roomOf p (0 : Int32) X4 Y5) (fun r9 X7 Y8 =>
    (if x1 ≤ r9 then
    bv (f_Pan_fill p (0 : Int32) x1 ((2 : Int32) * x1) X7 Y8) (fun X10 Y11 =>
    gd (ixb (0 : Int32) 6) (
    (rI (X10 (p + 1) (0 : Int32).toNatClampNeg) X10 Y11)))
    else
    (rI (-4 : Int32) X7 Y8)))))))
set_option maxRecDepth 4000 in
theorem c_Pan_takeSea {K : KK} (hK : kOK K) (p : Nat) (hp : IsP p) (x1 : Int32) (X : HI) (Y : HL) : CT K y_Pan_takeSea prog_5_method_17_code 2 (some .int) rm_Pan_takeSea [.ref p, .int x1] X Y (f_Pan_takeSea p x1 X Y) := by
  refine ct_of hK (L := [some (.ref p), some (.int x1)]) (by decide) ⟨rfl, ⟨rfl, trivial⟩⟩ (Nat.le_of_ble_eq_true rfl) ?_
  unfold f_Pan_takeSea
  refine j_aload_n (i := 0) (x := p) (q := 1) d_Pan_takeSea_0 rfl rfl rfl ?_
  refine j_get (v := .ref 3) (q := 4) d_Pan_takeSea_1 fk_Pan_28 (fv_P0 hp) rfl ?_
  refine j_iconst (v := 0) (q := 5) d_Pan_takeSea_4 (by decide) rfl ?_
  refine j_callVNi (a := 3) (S := []) (q := 8) [.int (0 : Int32)] d_Pan_takeSea_5 mw_Gro_hasPan mv_Gro_hasPan ml_Pan_36 ob_3 rfl rfl (c_Gro_hasPan hK (0 : Int32) X Y) ⟨⟨rfl, rfl⟩, ⟨Nat.le_of_ble_eq_true rfl, Nat.le_of_ble_eq_true rfl⟩, ⟨Nat.le_refl 0, Nat.le_refl 0⟩⟩ (Nat.le_of_ble_eq_true rfl) rfl (fun r3 X1 Y2 => ?_)
  refine j_if_ne (t := 13) (q := 11) d_Pan_takeSea_8 (by decide) rfl ?_ ?_
  · refine j_iload_n (i := 1) (x := x1) (q := 14) d_Pan_takeSea_13 rfl rfl rfl ?_
    refine j_iconst (v := 1) (q := 15) d_Pan_takeSea_14 (by decide) rfl ?_
    refine j_bipush (v := 9) (q := 17) d_Pan_takeSea_15 (by decide +kernel) rfl ?_
    refine j_callSNi (S := []) (q := 20) [.int x1, .int (1 : Int32), .int (9 : Int32)] d_Pan_takeSea_17 mw_Bri_isFromTo ms_Bri_isFromTo ml_Pan_67 rfl rfl (c_Bri_isFromTo hK x1 (1 : Int32) (9 : Int32) X1 Y2) ⟨⟨rfl, rfl⟩, ⟨Nat.le_of_ble_eq_true rfl, Nat.le_of_ble_eq_true rfl⟩, ⟨Nat.le_refl 0, Nat.le_refl 0⟩⟩ (Nat.le_of_ble_eq_true rfl) rfl (fun r6 X4 Y5 => ?_)
    refine j_if_ne (t := 26) (q := 23) d_Pan_takeSea_20 (by decide) rfl ?_ ?_
    · refine j_aload_n (i := 0) (x := p) (q := 27) d_Pan_takeSea_26 rfl rfl rfl ?_
      refine j_iconst (v := 0) (q := 28) d_Pan_takeSea_27 (by decide) rfl ?_
      refine j_callVi (a := p) (S := []) (q := 31) [.int (0 : Int32)] d_Pan_takeSea_28 mw_Pan_roomOf mv_Pan_roomOf ml_Pan_71 (ob_P hp) rfl rfl (c_Pan_roomOf hK p hp (0 : Int32) X4 Y5) ⟨⟨rfl, rfl⟩, ⟨Nat.le_of_ble_eq_true rfl, Nat.le_of_ble_eq_true rfl⟩, ⟨Nat.le_refl 0, Nat.le_refl 0⟩⟩ (Nat.le_of_ble_eq_true rfl) rfl (fun r9 X7 Y8 => ?_)
      refine j_iload_n (i := 1) (x := x1) (q := 32) d_Pan_takeSea_31 rfl rfl rfl ?_
      refine j_icmp_ge (t := 38) (q := 35) d_Pan_takeSea_32 (by decide) rfl ?_ ?_
      · refine j_aload_n (i := 0) (x := p) (q := 39) d_Pan_takeSea_38 rfl rfl rfl ?_
        refine j_iconst (v := 0) (q := 40) d_Pan_takeSea_39 (by decide) rfl ?_
        refine j_iload_n (i := 1) (x := x1) (q := 41) d_Pan_takeSea_40 rfl rfl rfl ?_
        refine j_iconst (v := 2) (q := 42) d_Pan_takeSea_41 (by decide) rfl ?_
        refine j_iload_n (i := 1) (x := x1) (q := 43) d_Pan_takeSea_42 rfl rfl rfl ?_
        refine j_imul (q := 44) d_Pan_takeSea_43 rfl ?_
        refine j_callVv (a := p) (S := []) (q := 47) [.int (0 : Int32), .int x1, .int ((2 : Int32) * x1)] d_Pan_takeSea_44 mw_Pan_fill mv_Pan_fill ml_Pan_74 (ob_P hp) rfl rfl (c_Pan_fill hK p hp (0 : Int32) x1 ((2 : Int32) * x1) X7 Y8) ⟨⟨rfl, rfl⟩, ⟨Nat.le_of_ble_eq_true rfl, Nat.le_of_ble_eq_true rfl⟩, ⟨Nat.le_refl 0, Nat.le_refl 0⟩⟩ (Nat.le_of_ble_eq_true rfl) rfl (fun X10 Y11 => ?_)
        refine j_aload_n (i := 0) (x := p) (q := 48) d_Pan_takeSea_47 rfl rfl rfl ?_
        refine j_get (v := .ref (p + 1)) (q := 51) d_Pan_takeSea_48 fk_Pan_9 (fv_P1 hp) rfl ?_
        refine j_iconst (v := 0) (q := 52) d_Pan_takeSea_51 (by decide) rfl ?_
        refine j_iald (q := 53) d_Pan_takeSea_52 (ai_P1 hp) rfl ?_
        exact j_iret d_Pan_takeSea_53
      · refine j_bipush (v := -4) (q := 37) d_Pan_takeSea_35 (by decide +kernel) rfl ?_
        exact j_iret d_Pan_takeSea_37
    · refine j_bipush (v := -2) (q := 25) d_Pan_takeSea_23 (by decide +kernel) rfl ?_
      exact j_iret d_Pan_takeSea_25
  · refine j_iconst (v := -1) (q := 12) d_Pan_takeSea_11 (by decide) rfl ?_
    exact j_iret d_Pan_takeSea_12
def f_Pan_letOn (p : Nat) (x1 : Int32) (x2 : Int32) (X : HI) (Y : HL) : Option Out :=
    bi (f_Gro_hasGate x1 X Y) (fun r3 X1 Y2 =>
    (if r3 = 0 then
    (rI (-1 : Int32) X1 Y2)
    else
    bi (f_Bri_isFromTo x2 (1 : Int32) (9 : Int32) X1 Y2) (fun r6 X4 Y5 =>
    (if r6 = 0 then
    (rI (-2 : Int32) X4 Y5)
    else
    gd (ixb x1 6) (
    (if x2 ≤ (X4 (p + 1) x1.toNatClampNeg) then
    bi (f_Pan_roomOf p (x1 + (1 : Int32)) X4 Y5) (fun r9 X7 Y8 =>
    (if x2 ≤ r9 then
    bi (f_Pan_drain p x1 x2 X7 Y8) (fun r12 X10 Y11 =>
    bv (f_Pan_fill p (x1 + (1 : Int32)) x2 r12 X10 Y11) (fun X13 Y14 =>
    (rI r12 X13 Y14)))
    else
    (rI (-4 : Int32) X7 Y8)))
    else
    (rI (-3 : Int32) X4 Y5)))))))
set_option maxRecDepth 4000 in
theorem c_Pan_letOn {K : KK} (hK : kOK K) (p : Nat) (hp : IsP p) (x1 : Int32) (x2 : Int32) (X : HI) (Y : HL) : CT K y_Pan_letOn prog_5_method_18_code 4 (some .int) rm_Pan_letOn [.ref p, .int x1, .int x2] X Y (f_Pan_letOn p x1 x2 X Y) := by
  refine ct_of hK (L := [some (.ref p), some (.int x1), some (.int x2), none]) (by decide) ⟨rfl, ⟨rfl, ⟨rfl, trivial⟩⟩⟩ (Nat.le_of_ble_eq_true rfl) ?_
  unfold f_Pan_letOn
  refine j_aload_n (i := 0) (x := p) (q := 1) d_Pan_letOn_0 rfl rfl rfl ?_
  refine j_get (v := .ref 3) (q := 4) d_Pan_letOn_1 fk_Pan_28 (fv_P0 hp) rfl ?_
  refine j_iload_n (i := 1) (x := x1) (q := 5) d_Pan_letOn_4 rfl rfl rfl ?_
  refine j_callVNi (a := 3) (S := []) (q := 8) [.int x1] d_Pan_letOn_5 mw_Gro_hasGate mv_Gro_hasGate ml_Pan_78 ob_3 rfl rfl (c_Gro_hasGate hK x1 X Y) ⟨⟨rfl, rfl⟩, ⟨Nat.le_of_ble_eq_true rfl, Nat.le_of_ble_eq_true rfl⟩, ⟨Nat.le_refl 0, Nat.le_refl 0⟩⟩ (Nat.le_of_ble_eq_true rfl) rfl (fun r3 X1 Y2 => ?_)
  refine j_if_ne (t := 13) (q := 11) d_Pan_letOn_8 (by decide) rfl ?_ ?_
  · refine j_iload_n (i := 2) (x := x2) (q := 14) d_Pan_letOn_13 rfl rfl rfl ?_
    refine j_iconst (v := 1) (q := 15) d_Pan_letOn_14 (by decide) rfl ?_
    refine j_bipush (v := 9) (q := 17) d_Pan_letOn_15 (by decide +kernel) rfl ?_
    refine j_callSNi (S := []) (q := 20) [.int x2, .int (1 : Int32), .int (9 : Int32)] d_Pan_letOn_17 mw_Bri_isFromTo ms_Bri_isFromTo ml_Pan_67 rfl rfl (c_Bri_isFromTo hK x2 (1 : Int32) (9 : Int32) X1 Y2) ⟨⟨rfl, rfl⟩, ⟨Nat.le_of_ble_eq_true rfl, Nat.le_of_ble_eq_true rfl⟩, ⟨Nat.le_refl 0, Nat.le_refl 0⟩⟩ (Nat.le_of_ble_eq_true rfl) rfl (fun r6 X4 Y5 => ?_)
    refine j_if_ne (t := 26) (q := 23) d_Pan_letOn_20 (by decide) rfl ?_ ?_
    · refine j_aload_n (i := 0) (x := p) (q := 27) d_Pan_letOn_26 rfl rfl rfl ?_
      refine j_get (v := .ref (p + 1)) (q := 30) d_Pan_letOn_27 fk_Pan_9 (fv_P1 hp) rfl ?_
      refine j_iload_n (i := 1) (x := x1) (q := 31) d_Pan_letOn_30 rfl rfl rfl ?_
      refine j_iald (q := 32) d_Pan_letOn_31 (ai_P1 hp) rfl ?_
      refine j_iload_n (i := 2) (x := x2) (q := 33) d_Pan_letOn_32 rfl rfl rfl ?_
      refine j_icmp_ge (t := 39) (q := 36) d_Pan_letOn_33 (by decide) rfl ?_ ?_
      · refine j_aload_n (i := 0) (x := p) (q := 40) d_Pan_letOn_39 rfl rfl rfl ?_
        refine j_iload_n (i := 1) (x := x1) (q := 41) d_Pan_letOn_40 rfl rfl rfl ?_
        refine j_iconst (v := 1) (q := 42) d_Pan_letOn_41 (by decide) rfl ?_
        refine j_iadd (q := 43) d_Pan_letOn_42 rfl ?_
        refine j_callVi (a := p) (S := []) (q := 46) [.int (x1 + (1 : Int32))] d_Pan_letOn_43 mw_Pan_roomOf mv_Pan_roomOf ml_Pan_71 (ob_P hp) rfl rfl (c_Pan_roomOf hK p hp (x1 + (1 : Int32)) X4 Y5) ⟨⟨rfl, rfl⟩, ⟨Nat.le_of_ble_eq_true rfl, Nat.le_of_ble_eq_true rfl⟩, ⟨Nat.le_refl 0, Nat.le_refl 0⟩⟩ (Nat.le_of_ble_eq_true rfl) rfl (fun r9 X7 Y8 => ?_)
        refine j_iload_n (i := 2) (x := x2) (q := 47) d_Pan_letOn_46 rfl rfl rfl ?_
        refine j_icmp_ge (t := 53) (q := 50) d_Pan_letOn_47 (by decide) rfl ?_ ?_
        · refine j_aload_n (i := 0) (x := p) (q := 54) d_Pan_letOn_53 rfl rfl rfl ?_
          refine j_iload_n (i := 1) (x := x1) (q := 55) d_Pan_letOn_54 rfl rfl rfl ?_
          refine j_iload_n (i := 2) (x := x2) (q := 56) d_Pan_letOn_55 rfl rfl rfl ?_
          refine j_callVi (a := p) (S := []) (q := 59) [.int x1, .int x2] d_Pan_letOn_56 mw_Pan_drain mv_Pan_drain ml_Pan_81 (ob_P hp) rfl rfl (c_Pan_drain hK p hp x1 x2 X7 Y8) ⟨⟨rfl, rfl⟩, ⟨Nat.le_of_ble_eq_true rfl, Nat.le_of_ble_eq_true rfl⟩, ⟨Nat.le_refl 0, Nat.le_refl 0⟩⟩ (Nat.le_of_ble_eq_true rfl) rfl (fun r12 X10 Y11 => ?_)
          refine j_istore_n (i := 3) (L' := [some (.ref p), some (.int x1), some (.int x2), some (.int r12)]) (q := 60) d_Pan_letOn_59 rfl (by decide) rfl rfl rfl ?_
          refine j_aload_n (i := 0) (x := p) (q := 61) d_Pan_letOn_60 rfl rfl rfl ?_
          refine j_iload_n (i := 1) (x := x1) (q := 62) d_Pan_letOn_61 rfl rfl rfl ?_
          refine j_iconst (v := 1) (q := 63) d_Pan_letOn_62 (by decide) rfl ?_
          refine j_iadd (q := 64) d_Pan_letOn_63 rfl ?_
          refine j_iload_n (i := 2) (x := x2) (q := 65) d_Pan_letOn_64 rfl rfl rfl ?_
          refine j_iload_n (i := 3) (x := r12) (q := 66) d_Pan_letOn_65 rfl rfl rfl ?_
          refine j_callVv (a := p) (S := []) (q := 69) [.int (x1 + (1 : Int32)), .int x2, .int r12] d_Pan_letOn_66 mw_Pan_fill mv_Pan_fill ml_Pan_74 (ob_P hp) rfl rfl (c_Pan_fill hK p hp (x1 + (1 : Int32)) x2 r12 X10 Y11) ⟨⟨rfl, rfl⟩, ⟨Nat.le_of_ble_eq_true rfl, Nat.le_of_ble_eq_true rfl⟩, ⟨Nat.le_refl 0, Nat.le_refl 0⟩⟩ (Nat.le_of_ble_eq_true rfl) rfl (fun X13 Y14 => ?_)
          refine j_iload_n (i := 3) (x := r12) (q := 70) d_Pan_letOn_69 rfl rfl rfl ?_
          exact j_iret d_Pan_letOn_70
        · refine j_bipush (v := -4) (q := 52) d_Pan_letOn_50 (by decide +kernel) rfl ?_
          exact j_iret d_Pan_letOn_52
      · refine j_bipush (v := -3) (q := 38) d_Pan_letOn_36 (by decide +kernel) rfl ?_
        exact j_iret d_Pan_letOn_38
    · refine j_bipush (v := -2) (q := 25) d_Pan_letOn_23 (by decide +kernel) rfl ?_
      exact j_iret d_Pan_letOn_25
  · refine j_iconst (v := -1) (q := 12) d_Pan_letOn_11 (by decide) rfl ?_
    exact j_iret d_Pan_letOn_12
def b_Pan_turnGate_28 (p : Nat) (x1 : Int32) (s0 : Int32) (s1 : Int32) (X : HI) (Y : HL) : Option Out :=
    bv (f_Pan_setGate p s1 s0 X Y) (fun X7 Y8 =>
    bi (f_Pan_isOpen p x1 X7 Y8) (fun r11 X9 Y10 =>
    (if r11 = 0 then
    (rI (0 : Int32) X9 Y10)
    else
    (rI (1 : Int32) X9 Y10))))
def f_Pan_turnGate (p : Nat) (x1 : Int32) (X : HI) (Y : HL) : Option Out :=
    bi (f_Gro_hasGate x1 X Y) (fun r3 X1 Y2 =>
    (if r3 = 0 then
    (rI (-1 : Int32) X1 Y2)
    else
    bi (f_Pan_isOpen p x1 X1 Y2) (fun r6 X4 Y5 =>
    (if r6 = 0 then
    (b_Pan_turnGate_28 p x1 (1 : Int32) x1 X4 Y5)
    else
    (b_Pan_turnGate_28 p x1 (0 : Int32) x1 X4 Y5)))))
set_option maxRecDepth 4000 in
theorem jb_Pan_turnGate_28 {K : KK} (hK : kOK K) (p : Nat) (hp : IsP p) (x1 : Int32) (s0 : Int32) (s1 : Int32) (X : HI) (Y : HL) : JO K "BrinePans$Pans" prog_5_method_19_code 2 (some .int) rm_Pan_turnGate 0 0 (MZ K) 28 [some (.ref p), some (.int x1)] [.int s0, .int s1, .ref p] X Y (b_Pan_turnGate_28 p x1 s0 s1 X Y) := by
  unfold b_Pan_turnGate_28
  refine j_callVv (a := p) (S := []) (q := 31) [.int s1, .int s0] d_Pan_turnGate_28 mw_Pan_setGate mv_Pan_setGate ml_Pan_84 (ob_P hp) rfl rfl (c_Pan_setGate hK p hp s1 s0 X Y) ⟨⟨rfl, rfl⟩, ⟨Nat.le_of_ble_eq_true rfl, Nat.le_of_ble_eq_true rfl⟩, ⟨Nat.le_refl 0, Nat.le_refl 0⟩⟩ (Nat.le_of_ble_eq_true rfl) rfl (fun X7 Y8 => ?_)
  refine j_aload_n (i := 0) (x := p) (q := 32) d_Pan_turnGate_31 rfl rfl rfl ?_
  refine j_iload_n (i := 1) (x := x1) (q := 33) d_Pan_turnGate_32 rfl rfl rfl ?_
  refine j_callVi (a := p) (S := []) (q := 36) [.int x1] d_Pan_turnGate_33 mw_Pan_isOpen mv_Pan_isOpen ml_Pan_58 (ob_P hp) rfl rfl (c_Pan_isOpen hK p hp x1 X7 Y8) ⟨⟨rfl, rfl⟩, ⟨Nat.le_of_ble_eq_true rfl, Nat.le_of_ble_eq_true rfl⟩, ⟨Nat.le_refl 0, Nat.le_refl 0⟩⟩ (Nat.le_of_ble_eq_true rfl) rfl (fun r11 X9 Y10 => ?_)
  refine j_if_eq (t := 43) (q := 39) d_Pan_turnGate_36 (by decide) rfl ?_ ?_
  · refine j_iconst (v := 0) (q := 44) d_Pan_turnGate_43 (by decide) rfl ?_
    exact j_iret d_Pan_turnGate_44
  · refine j_iconst (v := 1) (q := 40) d_Pan_turnGate_39 (by decide) rfl ?_
    refine j_goto (q := 44) d_Pan_turnGate_40 (by decide) ?_
    exact j_iret d_Pan_turnGate_44
set_option maxRecDepth 4000 in
theorem c_Pan_turnGate {K : KK} (hK : kOK K) (p : Nat) (hp : IsP p) (x1 : Int32) (X : HI) (Y : HL) : CT K y_Pan_turnGate prog_5_method_19_code 2 (some .int) rm_Pan_turnGate [.ref p, .int x1] X Y (f_Pan_turnGate p x1 X Y) := by
  refine ct_of hK (L := [some (.ref p), some (.int x1)]) (by decide) ⟨rfl, ⟨rfl, trivial⟩⟩ (Nat.le_of_ble_eq_true rfl) ?_
  unfold f_Pan_turnGate
  refine j_aload_n (i := 0) (x := p) (q := 1) d_Pan_turnGate_0 rfl rfl rfl ?_
  refine j_get (v := .ref 3) (q := 4) d_Pan_turnGate_1 fk_Pan_28 (fv_P0 hp) rfl ?_
  refine j_iload_n (i := 1) (x := x1) (q := 5) d_Pan_turnGate_4 rfl rfl rfl ?_
  refine j_callVNi (a := 3) (S := []) (q := 8) [.int x1] d_Pan_turnGate_5 mw_Gro_hasGate mv_Gro_hasGate ml_Pan_78 ob_3 rfl rfl (c_Gro_hasGate hK x1 X Y) ⟨⟨rfl, rfl⟩, ⟨Nat.le_of_ble_eq_true rfl, Nat.le_of_ble_eq_true rfl⟩, ⟨Nat.le_refl 0, Nat.le_refl 0⟩⟩ (Nat.le_of_ble_eq_true rfl) rfl (fun r3 X1 Y2 => ?_)
  refine j_if_ne (t := 13) (q := 11) d_Pan_turnGate_8 (by decide) rfl ?_ ?_
  · refine j_aload_n (i := 0) (x := p) (q := 14) d_Pan_turnGate_13 rfl rfl rfl ?_
    refine j_iload_n (i := 1) (x := x1) (q := 15) d_Pan_turnGate_14 rfl rfl rfl ?_
    refine j_aload_n (i := 0) (x := p) (q := 16) d_Pan_turnGate_15 rfl rfl rfl ?_
    refine j_iload_n (i := 1) (x := x1) (q := 17) d_Pan_turnGate_16 rfl rfl rfl ?_
    refine j_callVi (a := p) (S := [.int x1, .ref p]) (q := 20) [.int x1] d_Pan_turnGate_17 mw_Pan_isOpen mv_Pan_isOpen ml_Pan_58 (ob_P hp) rfl rfl (c_Pan_isOpen hK p hp x1 X1 Y2) ⟨⟨rfl, rfl⟩, ⟨Nat.le_of_ble_eq_true rfl, Nat.le_of_ble_eq_true rfl⟩, ⟨Nat.le_refl 0, Nat.le_refl 0⟩⟩ (Nat.le_of_ble_eq_true rfl) rfl (fun r6 X4 Y5 => ?_)
    refine j_if_ne (t := 27) (q := 23) d_Pan_turnGate_20 (by decide) rfl ?_ ?_
    · refine j_iconst (v := 0) (q := 28) d_Pan_turnGate_27 (by decide) rfl ?_
      refine j_sub (L' := [some (.ref p), some (.int x1)]) ⟨rfl, ⟨rfl, trivial⟩⟩ ?_
      exact jb_Pan_turnGate_28 hK p hp x1 (0 : Int32) x1 X4 Y5
    · refine j_iconst (v := 1) (q := 24) d_Pan_turnGate_23 (by decide) rfl ?_
      refine j_goto (q := 28) d_Pan_turnGate_24 (by decide) ?_
      refine j_sub (L' := [some (.ref p), some (.int x1)]) ⟨rfl, ⟨rfl, trivial⟩⟩ ?_
      exact jb_Pan_turnGate_28 hK p hp x1 (1 : Int32) x1 X4 Y5
  · refine j_iconst (v := -1) (q := 12) d_Pan_turnGate_11 (by decide) rfl ?_
    exact j_iret d_Pan_turnGate_12
def f_Pan_rakeUp (p : Nat) (x1 : Int32) (X : HI) (Y : HL) : Option Out :=
    bi (f_Gro_hasPan x1 X Y) (fun r3 X1 Y2 =>
    (if r3 = 0 then
    (rI (-1 : Int32) X1 Y2)
    else
    bi (f_Pan_canRake p x1 X1 Y2) (fun r6 X4 Y5 =>
    (if r6 = 0 then
    (rI (-3 : Int32) X4 Y5)
    else
    bi (f_Pan_crustOf p x1 X4 Y5) (fun r9 X7 Y8 =>
    gd (ixb x1 6) (
    wr (ixb x1 6) (up X7 (p + 2) x1.toNatClampNeg ((X7 (p + 2) x1.toNatClampNeg) - r9)) (fun X10 =>
    lh (up X10 p 4 (if ((X10 p 4) + r9) < (9999 : Int32) then ((X10 p 4) + r9) else (9999 : Int32))) (fun X11 =>
    (rI r9 X11 Y8)))))))))
set_option maxRecDepth 4000 in
theorem c_Pan_rakeUp {K : KK} (hK : kOK K) (p : Nat) (hp : IsP p) (x1 : Int32) (X : HI) (Y : HL) : CT K y_Pan_rakeUp prog_5_method_20_code 3 (some .int) rm_Pan_rakeUp [.ref p, .int x1] X Y (f_Pan_rakeUp p x1 X Y) := by
  refine ct_of hK (L := [some (.ref p), some (.int x1), none]) (by decide) ⟨rfl, ⟨rfl, trivial⟩⟩ (Nat.le_of_ble_eq_true rfl) ?_
  unfold f_Pan_rakeUp
  refine j_aload_n (i := 0) (x := p) (q := 1) d_Pan_rakeUp_0 rfl rfl rfl ?_
  refine j_get (v := .ref 3) (q := 4) d_Pan_rakeUp_1 fk_Pan_28 (fv_P0 hp) rfl ?_
  refine j_iload_n (i := 1) (x := x1) (q := 5) d_Pan_rakeUp_4 rfl rfl rfl ?_
  refine j_callVNi (a := 3) (S := []) (q := 8) [.int x1] d_Pan_rakeUp_5 mw_Gro_hasPan mv_Gro_hasPan ml_Pan_36 ob_3 rfl rfl (c_Gro_hasPan hK x1 X Y) ⟨⟨rfl, rfl⟩, ⟨Nat.le_of_ble_eq_true rfl, Nat.le_of_ble_eq_true rfl⟩, ⟨Nat.le_refl 0, Nat.le_refl 0⟩⟩ (Nat.le_of_ble_eq_true rfl) rfl (fun r3 X1 Y2 => ?_)
  refine j_if_ne (t := 13) (q := 11) d_Pan_rakeUp_8 (by decide) rfl ?_ ?_
  · refine j_aload_n (i := 0) (x := p) (q := 14) d_Pan_rakeUp_13 rfl rfl rfl ?_
    refine j_iload_n (i := 1) (x := x1) (q := 15) d_Pan_rakeUp_14 rfl rfl rfl ?_
    refine j_callVi (a := p) (S := []) (q := 18) [.int x1] d_Pan_rakeUp_15 mw_Pan_canRake mv_Pan_canRake ml_Pan_55 (ob_P hp) rfl rfl (c_Pan_canRake hK p hp x1 X1 Y2) ⟨⟨rfl, rfl⟩, ⟨Nat.le_of_ble_eq_true rfl, Nat.le_of_ble_eq_true rfl⟩, ⟨Nat.le_refl 0, Nat.le_refl 0⟩⟩ (Nat.le_of_ble_eq_true rfl) rfl (fun r6 X4 Y5 => ?_)
    refine j_if_ne (t := 24) (q := 21) d_Pan_rakeUp_18 (by decide) rfl ?_ ?_
    · refine j_aload_n (i := 0) (x := p) (q := 25) d_Pan_rakeUp_24 rfl rfl rfl ?_
      refine j_iload_n (i := 1) (x := x1) (q := 26) d_Pan_rakeUp_25 rfl rfl rfl ?_
      refine j_callVi (a := p) (S := []) (q := 29) [.int x1] d_Pan_rakeUp_26 mw_Pan_crustOf mv_Pan_crustOf ml_Pan_52 (ob_P hp) rfl rfl (c_Pan_crustOf hK p hp x1 X4 Y5) ⟨⟨rfl, rfl⟩, ⟨Nat.le_of_ble_eq_true rfl, Nat.le_of_ble_eq_true rfl⟩, ⟨Nat.le_refl 0, Nat.le_refl 0⟩⟩ (Nat.le_of_ble_eq_true rfl) rfl (fun r9 X7 Y8 => ?_)
      refine j_istore_n (i := 2) (L' := [some (.ref p), some (.int x1), some (.int r9)]) (q := 30) d_Pan_rakeUp_29 rfl (by decide) rfl rfl rfl ?_
      refine j_aload_n (i := 0) (x := p) (q := 31) d_Pan_rakeUp_30 rfl rfl rfl ?_
      refine j_get (v := .ref (p + 2)) (q := 34) d_Pan_rakeUp_31 fk_Pan_15 (fv_P2 hp) rfl ?_
      refine j_iload_n (i := 1) (x := x1) (q := 35) d_Pan_rakeUp_34 rfl rfl rfl ?_
      refine j_dup2 (q := 36) d_Pan_rakeUp_35 rfl rfl rfl ?_
      refine j_iald (q := 37) d_Pan_rakeUp_36 (ai_P2 hp) rfl ?_
      refine j_iload_n (i := 2) (x := r9) (q := 38) d_Pan_rakeUp_37 rfl rfl rfl ?_
      refine j_isub (q := 39) d_Pan_rakeUp_38 rfl ?_
      refine j_iast (q := 40) d_Pan_rakeUp_39 (ai_P2 hp) rfl (fun X10 => ?_)
      refine j_aload_n (i := 0) (x := p) (q := 41) d_Pan_rakeUp_40 rfl rfl rfl ?_
      refine j_sipush (v := 9999) (q := 44) d_Pan_rakeUp_41 (by decide +kernel) rfl ?_
      refine j_aload_n (i := 0) (x := p) (q := 45) d_Pan_rakeUp_44 rfl rfl rfl ?_
      refine j_get (v := .int (X10 p 4)) (q := 48) d_Pan_rakeUp_45 fk_Pan_22 (fv_P4 hp) rfl ?_
      refine j_iload_n (i := 2) (x := r9) (q := 49) d_Pan_rakeUp_48 rfl rfl rfl ?_
      refine j_iadd (q := 50) d_Pan_rakeUp_49 rfl ?_
      refine j_mmin (S := [.ref p]) (q := 53) d_Pan_rakeUp_50 (gw_t 328 (by decide +kernel) (by decide +kernel)) ⟨Nat.le_of_ble_eq_true rfl, Nat.le_of_ble_eq_true rfl, Nat.le_refl 0, Nat.le_refl 0⟩ rfl ?_
      refine j_putI (q := 56) d_Pan_rakeUp_53 fp_Pan_22 (fw_P4 hp) rfl (fun X11 => ?_)
      refine j_iload_n (i := 2) (x := r9) (q := 57) d_Pan_rakeUp_56 rfl rfl rfl ?_
      exact j_iret d_Pan_rakeUp_57
    · refine j_bipush (v := -3) (q := 23) d_Pan_rakeUp_21 (by decide +kernel) rfl ?_
      exact j_iret d_Pan_rakeUp_23
  · refine j_iconst (v := -1) (q := 12) d_Pan_rakeUp_11 (by decide) rfl ?_
    exact j_iret d_Pan_rakeUp_12
def l_Pan_rain_2 (p : Nat) (x1 : Int32) (kx : Int32 → HI → HL → Option Out) : Nat → Int32 → HI → HL → Option Out
  | 0, _, _, _ => none
  | n + 1, m2, X, Y =>
    (if (X 3 2) ≤ m2 then
    (kx m2 X Y)
    else
    gd (ixb m2 6) (
    bi (f_Pan_roomOf p m2 X Y) (fun r3 X1 Y2 =>
    wr (ixb m2 6) (up X1 (p + 1) m2.toNatClampNeg ((X (p + 1) m2.toNatClampNeg) + (if r3 < x1 then r3 else x1))) (fun X4 =>
    (l_Pan_rain_2 p x1 kx n (m2 + (1 : Int32)) X4 Y2)))))
def f_Pan_rain (p : Nat) (x1 : Int32) (X : HI) (Y : HL) : Option Out :=
    (l_Pan_rain_2 p x1 (fun w5 X6 Y7 =>
    (rV X6 Y7)) 256 (0 : Int32) X Y)
set_option maxRecDepth 4000 in
theorem jl_Pan_rain_2 {K : KK} (hK : kOK K) (p : Nat) (hp : IsP p) (x1 : Int32) (kx : Int32 → HI → HL → Option Out) (hkx : ∀ (m2 : Int32) (X : HI) (Y : HL), JO K "BrinePans$Pans" prog_5_method_22_code 3 none rm_Pan_rain 0 0 (MZ K) 37 [none, none, none] [] X Y (kx m2 X Y)) : ∀ (n : Nat) (m2 : Int32) (X : HI) (Y : HL), JO K "BrinePans$Pans" prog_5_method_22_code 3 none rm_Pan_rain 0 0 (MZ K) 2 [some (.ref p), some (.int x1), some (.int m2)] [] X Y (l_Pan_rain_2 p x1 kx n m2 X Y) := by
  intro n
  induction n with
  | zero =>
    intro m2 X Y
    rw [l_Pan_rain_2]
    exact j_none
  | succ n ih =>
    intro m2 X Y
    rw [l_Pan_rain_2]
    refine j_iload_n (i := 2) (x := m2) (q := 3) d_Pan_rain_2 rfl rfl rfl ?_
    refine j_aload_n (i := 0) (x := p) (q := 4) d_Pan_rain_3 rfl rfl rfl ?_
    refine j_get (v := .ref 3) (q := 7) d_Pan_rain_4 fk_Pan_28 (fv_P0 hp) rfl ?_
    refine j_get (v := .int (X 3 2)) (q := 10) d_Pan_rain_7 fk_Pan_49 fv_3_2 rfl ?_
    refine j_icmp_ge (t := 37) (q := 13) d_Pan_rain_10 (by decide) rfl ?_ ?_
    · refine j_sub (L' := [none, none, none]) trivial ?_
      exact hkx m2 X Y
    · refine j_aload_n (i := 0) (x := p) (q := 14) d_Pan_rain_13 rfl rfl rfl ?_
      refine j_get (v := .ref (p + 1)) (q := 17) d_Pan_rain_14 fk_Pan_9 (fv_P1 hp) rfl ?_
      refine j_iload_n (i := 2) (x := m2) (q := 18) d_Pan_rain_17 rfl rfl rfl ?_
      refine j_dup2 (q := 19) d_Pan_rain_18 rfl rfl rfl ?_
      refine j_iald (q := 20) d_Pan_rain_19 (ai_P1 hp) rfl ?_
      refine j_iload_n (i := 1) (x := x1) (q := 21) d_Pan_rain_20 rfl rfl rfl ?_
      refine j_aload_n (i := 0) (x := p) (q := 22) d_Pan_rain_21 rfl rfl rfl ?_
      refine j_iload_n (i := 2) (x := m2) (q := 23) d_Pan_rain_22 rfl rfl rfl ?_
      refine j_callVi (a := p) (S := [.int x1, .int (X (p + 1) m2.toNatClampNeg), .int m2, .ref (p + 1)]) (q := 26) [.int m2] d_Pan_rain_23 mw_Pan_roomOf mv_Pan_roomOf ml_Pan_71 (ob_P hp) rfl rfl (c_Pan_roomOf hK p hp m2 X Y) ⟨⟨rfl, rfl⟩, ⟨Nat.le_of_ble_eq_true rfl, Nat.le_of_ble_eq_true rfl⟩, ⟨Nat.le_refl 0, Nat.le_refl 0⟩⟩ (Nat.le_of_ble_eq_true rfl) rfl (fun r3 X1 Y2 => ?_)
      refine j_mmin (S := [.int (X (p + 1) m2.toNatClampNeg), .int m2, .ref (p + 1)]) (q := 29) d_Pan_rain_26 (gw_t 328 (by decide +kernel) (by decide +kernel)) ⟨Nat.le_of_ble_eq_true rfl, Nat.le_of_ble_eq_true rfl, Nat.le_refl 0, Nat.le_refl 0⟩ rfl ?_
      refine j_iadd (q := 30) d_Pan_rain_29 rfl ?_
      refine j_iast (q := 31) d_Pan_rain_30 (ai_P1 hp) rfl (fun X4 => ?_)
      refine j_iinc (i := 2) (x := m2) (d := 1) (L' := [some (.ref p), some (.int x1), some (.int (m2 + (1 : Int32)))]) (q := 34) d_Pan_rain_31 rfl (by decide) (by decide) rfl rfl rfl ?_
      refine j_goto (q := 2) d_Pan_rain_34 (by decide) ?_
      refine j_sub (L' := [some (.ref p), some (.int x1), some (.int (m2 + (1 : Int32)))]) ⟨rfl, ⟨rfl, ⟨rfl, trivial⟩⟩⟩ ?_
      exact ih (m2 + (1 : Int32)) X4 Y2
set_option maxRecDepth 4000 in
theorem c_Pan_rain {K : KK} (hK : kOK K) (p : Nat) (hp : IsP p) (x1 : Int32) (X : HI) (Y : HL) : CT K y_Pan_rain prog_5_method_22_code 3 none rm_Pan_rain [.ref p, .int x1] X Y (f_Pan_rain p x1 X Y) := by
  refine ct_of hK (L := [some (.ref p), some (.int x1), none]) (by decide) ⟨rfl, ⟨rfl, trivial⟩⟩ (Nat.le_of_ble_eq_true rfl) ?_
  unfold f_Pan_rain
  refine j_iconst (v := 0) (q := 1) d_Pan_rain_0 (by decide) rfl ?_
  refine j_istore_n (i := 2) (L' := [some (.ref p), some (.int x1), some (.int (0 : Int32))]) (q := 2) d_Pan_rain_1 rfl (by decide) rfl rfl rfl ?_
  refine j_sub (L' := [some (.ref p), some (.int x1), some (.int (0 : Int32))]) ⟨rfl, ⟨rfl, ⟨rfl, trivial⟩⟩⟩ ?_
  refine jl_Pan_rain_2 hK p hp x1 _ (fun w5 X6 Y7 => ?_) 256 (0 : Int32) X Y
  exact j_vret d_Pan_rain_37
def b_Pan_shine_33 (p : Nat) (kc : Int32 → HI → HL → Option Out) (kx : Int32 → HI → HL → Option Out) (x1 : Int32) (x2 : Int32) (s0 : Int32) (X : HI) (Y : HL) : Option Out :=
    gd (ixb x2 6) (
    wr (ixb x2 6) (up X (p + 1) x2.toNatClampNeg (if (0 : Int32) < ((X (p + 1) x2.toNatClampNeg) - s0) then ((X (p + 1) x2.toNatClampNeg) - s0) else (0 : Int32))) (fun X1 =>
    (kc (x2 + (1 : Int32)) X1 Y)))
def l_Pan_shine_2 (p : Nat) (x1 : Int32) (kx : Int32 → HI → HL → Option Out) : Nat → Int32 → HI → HL → Option Out
  | 0, _, _, _ => none
  | n + 1, m2, X, Y =>
    (if (X 3 2) ≤ m2 then
    (kx m2 X Y)
    else
    gd (ixb m2 6) (
    (if (X 4 m2.toNatClampNeg) = (2 : Int32) then
    (b_Pan_shine_33 p (fun a2 A B => l_Pan_shine_2 p x1 kx n a2 A B) kx x1 m2 (x1 + (1 : Int32)) X Y)
    else
    (b_Pan_shine_33 p (fun a2 A B => l_Pan_shine_2 p x1 kx n a2 A B) kx x1 m2 x1 X Y))))
def f_Pan_shine (p : Nat) (x1 : Int32) (X : HI) (Y : HL) : Option Out :=
    (l_Pan_shine_2 p x1 (fun w2 X3 Y4 =>
    (rV X3 Y4)) 256 (0 : Int32) X Y)
set_option maxRecDepth 4000 in
theorem jb_Pan_shine_33 {K : KK} (hK : kOK K) (p : Nat) (hp : IsP p) (kc : Int32 → HI → HL → Option Out) (kx : Int32 → HI → HL → Option Out) (x1 : Int32) (x2 : Int32) (s0 : Int32) (hkc : ∀ (m2 : Int32) (X : HI) (Y : HL), JO K "BrinePans$Pans" prog_5_method_23_code 4 none rm_Pan_shine 0 0 (MZ K) 2 [some (.ref p), some (.int x1), some (.int m2), none] [] X Y (kc m2 X Y)) (hkx : ∀ (m2 : Int32) (X : HI) (Y : HL), JO K "BrinePans$Pans" prog_5_method_23_code 4 none rm_Pan_shine 0 0 (MZ K) 58 [none, none, none, none] [] X Y (kx m2 X Y)) (X : HI) (Y : HL) : JO K "BrinePans$Pans" prog_5_method_23_code 4 none rm_Pan_shine 0 0 (MZ K) 33 [some (.ref p), some (.int x1), some (.int x2), none] [.int s0] X Y (b_Pan_shine_33 p kc kx x1 x2 s0 X Y) := by
  unfold b_Pan_shine_33
  refine j_istore_n (i := 3) (L' := [some (.ref p), some (.int x1), some (.int x2), some (.int s0)]) (q := 34) d_Pan_shine_33 rfl (by decide) rfl rfl rfl ?_
  refine j_aload_n (i := 0) (x := p) (q := 35) d_Pan_shine_34 rfl rfl rfl ?_
  refine j_get (v := .ref (p + 1)) (q := 38) d_Pan_shine_35 fk_Pan_9 (fv_P1 hp) rfl ?_
  refine j_iload_n (i := 2) (x := x2) (q := 39) d_Pan_shine_38 rfl rfl rfl ?_
  refine j_iconst (v := 0) (q := 40) d_Pan_shine_39 (by decide) rfl ?_
  refine j_aload_n (i := 0) (x := p) (q := 41) d_Pan_shine_40 rfl rfl rfl ?_
  refine j_get (v := .ref (p + 1)) (q := 44) d_Pan_shine_41 fk_Pan_9 (fv_P1 hp) rfl ?_
  refine j_iload_n (i := 2) (x := x2) (q := 45) d_Pan_shine_44 rfl rfl rfl ?_
  refine j_iald (q := 46) d_Pan_shine_45 (ai_P1 hp) rfl ?_
  refine j_iload_n (i := 3) (x := s0) (q := 47) d_Pan_shine_46 rfl rfl rfl ?_
  refine j_isub (q := 48) d_Pan_shine_47 rfl ?_
  refine j_mmax (S := [.int x2, .ref (p + 1)]) (q := 51) d_Pan_shine_48 (gw_t 340 (by decide +kernel) (by decide +kernel)) ⟨Nat.le_of_ble_eq_true rfl, Nat.le_of_ble_eq_true rfl, Nat.le_refl 0, Nat.le_refl 0⟩ rfl ?_
  refine j_iast (q := 52) d_Pan_shine_51 (ai_P1 hp) rfl (fun X1 => ?_)
  refine j_iinc (i := 2) (x := x2) (d := 1) (L' := [some (.ref p), some (.int x1), some (.int (x2 + (1 : Int32))), some (.int s0)]) (q := 55) d_Pan_shine_52 rfl (by decide) (by decide) rfl rfl rfl ?_
  refine j_goto (q := 2) d_Pan_shine_55 (by decide) ?_
  refine j_sub (L' := [some (.ref p), some (.int x1), some (.int (x2 + (1 : Int32))), none]) ⟨rfl, ⟨rfl, ⟨rfl, trivial⟩⟩⟩ ?_
  exact hkc (x2 + (1 : Int32)) X1 Y
set_option maxRecDepth 4000 in
theorem jl_Pan_shine_2 {K : KK} (hK : kOK K) (p : Nat) (hp : IsP p) (x1 : Int32) (kx : Int32 → HI → HL → Option Out) (hkx : ∀ (m2 : Int32) (X : HI) (Y : HL), JO K "BrinePans$Pans" prog_5_method_23_code 4 none rm_Pan_shine 0 0 (MZ K) 58 [none, none, none, none] [] X Y (kx m2 X Y)) : ∀ (n : Nat) (m2 : Int32) (X : HI) (Y : HL), JO K "BrinePans$Pans" prog_5_method_23_code 4 none rm_Pan_shine 0 0 (MZ K) 2 [some (.ref p), some (.int x1), some (.int m2), none] [] X Y (l_Pan_shine_2 p x1 kx n m2 X Y) := by
  intro n
  induction n with
  | zero =>
    intro m2 X Y
    rw [l_Pan_shine_2]
    exact j_none
  | succ n ih =>
    intro m2 X Y
    rw [l_Pan_shine_2]
    refine j_iload_n (i := 2) (x := m2) (q := 3) d_Pan_shine_2 rfl rfl rfl ?_
    refine j_aload_n (i := 0) (x := p) (q := 4) d_Pan_shine_3 rfl rfl rfl ?_
    refine j_get (v := .ref 3) (q := 7) d_Pan_shine_4 fk_Pan_28 (fv_P0 hp) rfl ?_
    refine j_get (v := .int (X 3 2)) (q := 10) d_Pan_shine_7 fk_Pan_49 fv_3_2 rfl ?_
    refine j_icmp_ge (t := 58) (q := 13) d_Pan_shine_10 (by decide) rfl ?_ ?_
    · refine j_sub (L' := [none, none, none, none]) trivial ?_
      exact hkx m2 X Y
    · refine j_aload_n (i := 0) (x := p) (q := 14) d_Pan_shine_13 rfl rfl rfl ?_
      refine j_get (v := .ref 3) (q := 17) d_Pan_shine_14 fk_Pan_28 (fv_P0 hp) rfl ?_
      refine j_get (v := .ref 4) (q := 20) d_Pan_shine_17 fk_Pan_95 fv_3_0 rfl ?_
      refine j_iload_n (i := 2) (x := m2) (q := 21) d_Pan_shine_20 rfl rfl rfl ?_
      refine j_iald (q := 22) d_Pan_shine_21 ai_4 rfl ?_
      refine j_iconst (v := 2) (q := 23) d_Pan_shine_22 (by decide) rfl ?_
      refine j_icmp_ne (t := 32) (q := 26) d_Pan_shine_23 (by decide) rfl ?_ ?_
      · refine j_iload_n (i := 1) (x := x1) (q := 33) d_Pan_shine_32 rfl rfl rfl ?_
        refine j_sub (L' := [some (.ref p), some (.int x1), some (.int m2), none]) ⟨rfl, ⟨rfl, ⟨rfl, trivial⟩⟩⟩ ?_
        exact jb_Pan_shine_33 hK p hp (fun a2 A B => l_Pan_shine_2 p x1 kx n a2 A B) kx x1 m2 x1 ih hkx X Y
      · refine j_iload_n (i := 1) (x := x1) (q := 27) d_Pan_shine_26 rfl rfl rfl ?_
        refine j_iconst (v := 1) (q := 28) d_Pan_shine_27 (by decide) rfl ?_
        refine j_iadd (q := 29) d_Pan_shine_28 rfl ?_
        refine j_goto (q := 33) d_Pan_shine_29 (by decide) ?_
        refine j_sub (L' := [some (.ref p), some (.int x1), some (.int m2), none]) ⟨rfl, ⟨rfl, ⟨rfl, trivial⟩⟩⟩ ?_
        exact jb_Pan_shine_33 hK p hp (fun a2 A B => l_Pan_shine_2 p x1 kx n a2 A B) kx x1 m2 (x1 + (1 : Int32)) ih hkx X Y
set_option maxRecDepth 4000 in
theorem c_Pan_shine {K : KK} (hK : kOK K) (p : Nat) (hp : IsP p) (x1 : Int32) (X : HI) (Y : HL) : CT K y_Pan_shine prog_5_method_23_code 4 none rm_Pan_shine [.ref p, .int x1] X Y (f_Pan_shine p x1 X Y) := by
  refine ct_of hK (L := [some (.ref p), some (.int x1), none, none]) (by decide) ⟨rfl, ⟨rfl, trivial⟩⟩ (Nat.le_of_ble_eq_true rfl) ?_
  unfold f_Pan_shine
  refine j_iconst (v := 0) (q := 1) d_Pan_shine_0 (by decide) rfl ?_
  refine j_istore_n (i := 2) (L' := [some (.ref p), some (.int x1), some (.int (0 : Int32)), none]) (q := 2) d_Pan_shine_1 rfl (by decide) rfl rfl rfl ?_
  refine j_sub (L' := [some (.ref p), some (.int x1), some (.int (0 : Int32)), none]) ⟨rfl, ⟨rfl, ⟨rfl, trivial⟩⟩⟩ ?_
  refine jl_Pan_shine_2 hK p hp x1 _ (fun w2 X3 Y4 => ?_) 256 (0 : Int32) X Y
  exact j_vret d_Pan_shine_58
def b_Pan_passDay_28 (p : Nat) (kc : Int32 → HI → HL → Option Out) (kx : Int32 → HI → HL → Option Out) (x1 : Int32) (x2 : Int32) (X : HI) (Y : HL) : Option Out :=
    (kc (x2 + (1 : Int32)) X Y)
def l_Pan_passDay_2 (p : Nat) (x1 : Int32) (kx : Int32 → HI → HL → Option Out) : Nat → Int32 → HI → HL → Option Out
  | 0, _, _, _ => none
  | n + 1, m2, X, Y =>
    bi (f_Gro_gateCount X Y) (fun r3 X1 Y2 =>
    (if r3 ≤ m2 then
    (kx m2 X1 Y2)
    else
    bi (f_Pan_isOpen p m2 X1 Y2) (fun r6 X4 Y5 =>
    (if r6 = 0 then
    (b_Pan_passDay_28 p (fun a2 A B => l_Pan_passDay_2 p x1 kx n a2 A B) kx x1 m2 X4 Y5)
    else
    bi (f_Pan_letOn p m2 (1 : Int32) X4 Y5) (fun r9 X7 Y8 =>
    (b_Pan_passDay_28 p (fun a2 A B => l_Pan_passDay_2 p x1 kx n a2 A B) kx x1 m2 X7 Y8))))))
def b_Pan_passDay_67 (p : Nat) (kc : Int32 → HI → HL → Option Out) (kx : Int32 → HI → HL → Option Out) (x1 : Int32) (x2 : Int32) (X : HI) (Y : HL) : Option Out :=
    (kc (x2 + (1 : Int32)) X Y)
def l_Pan_passDay_36 (p : Nat) (x1 : Int32) (kx : Int32 → HI → HL → Option Out) : Nat → Int32 → HI → HL → Option Out
  | 0, _, _, _ => none
  | n + 1, m2, X, Y =>
    (if (X 3 2) ≤ m2 then
    (kx m2 X Y)
    else
    gd (ixb m2 6) (
    (if (X 4 m2.toNatClampNeg) = (3 : Int32) then
    bi (f_Pan_drain p m2 (1 : Int32) X Y) (fun r15 X13 Y14 =>
    (b_Pan_passDay_67 p (fun a2 A B => l_Pan_passDay_36 p x1 kx n a2 A B) kx x1 m2 X13 Y14))
    else
    (b_Pan_passDay_67 p (fun a2 A B => l_Pan_passDay_36 p x1 kx n a2 A B) kx x1 m2 X Y))))
def b_Pan_passDay_111 (p : Nat) (X : HI) (Y : HL) : Option Out :=
    lh (up X p 5 ((X p 5) + (1 : Int32))) (fun X22 =>
    (rV X22 Y))
def f_Pan_passDay (p : Nat) (x1 : Int32) (X : HI) (Y : HL) : Option Out :=
    (l_Pan_passDay_2 p x1 (fun w10 X11 Y12 =>
    (l_Pan_passDay_36 p x1 (fun w16 X17 Y18 =>
    bi (f_Gro_skyOf (X17 p 5) X17 Y18) (fun r21 X19 Y20 =>
    (if 0 ≤ r21 then
    (if r21 ≤ 0 then
    (b_Pan_passDay_111 p X19 Y20)
    else
    (if x1 = 0 then
    bv (f_Pan_shine p r21 X19 Y20) (fun X23 Y24 =>
    (b_Pan_passDay_111 p X23 Y24))
    else
    (b_Pan_passDay_111 p X19 Y20)))
    else
    bv (f_Pan_rain p (-r21) X19 Y20) (fun X25 Y26 =>
    (b_Pan_passDay_111 p X25 Y26))))) 256 (0 : Int32) X11 Y12)) 256 (0 : Int32) X Y)
set_option maxRecDepth 4000 in
theorem jb_Pan_passDay_28 {K : KK} (hK : kOK K) (p : Nat) (hp : IsP p) (kc : Int32 → HI → HL → Option Out) (kx : Int32 → HI → HL → Option Out) (x1 : Int32) (x2 : Int32) (hkc : ∀ (m2 : Int32) (X : HI) (Y : HL), JO K "BrinePans$Pans" prog_5_method_21_code 3 none rm_Pan_passDay 0 0 (MZ K) 2 [some (.ref p), some (.int x1), some (.int m2)] [] X Y (kc m2 X Y)) (hkx : ∀ (m2 : Int32) (X : HI) (Y : HL), JO K "BrinePans$Pans" prog_5_method_21_code 3 none rm_Pan_passDay 0 0 (MZ K) 34 [some (.ref p), some (.int x1), none] [] X Y (kx m2 X Y)) (X : HI) (Y : HL) : JO K "BrinePans$Pans" prog_5_method_21_code 3 none rm_Pan_passDay 0 0 (MZ K) 28 [some (.ref p), some (.int x1), some (.int x2)] [] X Y (b_Pan_passDay_28 p kc kx x1 x2 X Y) := by
  unfold b_Pan_passDay_28
  refine j_iinc (i := 2) (x := x2) (d := 1) (L' := [some (.ref p), some (.int x1), some (.int (x2 + (1 : Int32)))]) (q := 31) d_Pan_passDay_28 rfl (by decide) (by decide) rfl rfl rfl ?_
  refine j_goto (q := 2) d_Pan_passDay_31 (by decide) ?_
  refine j_sub (L' := [some (.ref p), some (.int x1), some (.int (x2 + (1 : Int32)))]) ⟨rfl, ⟨rfl, ⟨rfl, trivial⟩⟩⟩ ?_
  exact hkc (x2 + (1 : Int32)) X Y
set_option maxRecDepth 4000 in
theorem jl_Pan_passDay_2 {K : KK} (hK : kOK K) (p : Nat) (hp : IsP p) (x1 : Int32) (kx : Int32 → HI → HL → Option Out) (hkx : ∀ (m2 : Int32) (X : HI) (Y : HL), JO K "BrinePans$Pans" prog_5_method_21_code 3 none rm_Pan_passDay 0 0 (MZ K) 34 [some (.ref p), some (.int x1), none] [] X Y (kx m2 X Y)) : ∀ (n : Nat) (m2 : Int32) (X : HI) (Y : HL), JO K "BrinePans$Pans" prog_5_method_21_code 3 none rm_Pan_passDay 0 0 (MZ K) 2 [some (.ref p), some (.int x1), some (.int m2)] [] X Y (l_Pan_passDay_2 p x1 kx n m2 X Y) := by
  intro n
  induction n with
  | zero =>
    intro m2 X Y
    rw [l_Pan_passDay_2]
    exact j_none
  | succ n ih =>
    intro m2 X Y
    rw [l_Pan_passDay_2]
    refine j_iload_n (i := 2) (x := m2) (q := 3) d_Pan_passDay_2 rfl rfl rfl ?_
    refine j_aload_n (i := 0) (x := p) (q := 4) d_Pan_passDay_3 rfl rfl rfl ?_
    refine j_get (v := .ref 3) (q := 7) d_Pan_passDay_4 fk_Pan_28 (fv_P0 hp) rfl ?_
    refine j_callVNi (a := 3) (S := [.int m2]) (q := 10) [] d_Pan_passDay_7 mw_Gro_gateCount mv_Gro_gateCount ml_Pan_88 ob_3 rfl rfl (c_Gro_gateCount hK X Y) ⟨⟨rfl, rfl⟩, ⟨Nat.le_of_ble_eq_true rfl, Nat.le_of_ble_eq_true rfl⟩, ⟨Nat.le_refl 0, Nat.le_refl 0⟩⟩ (Nat.le_of_ble_eq_true rfl) rfl (fun r3 X1 Y2 => ?_)
    refine j_icmp_ge (t := 34) (q := 13) d_Pan_passDay_10 (by decide) rfl ?_ ?_
    · refine j_sub (L' := [some (.ref p), some (.int x1), none]) ⟨rfl, ⟨rfl, trivial⟩⟩ ?_
      exact hkx m2 X1 Y2
    · refine j_aload_n (i := 0) (x := p) (q := 14) d_Pan_passDay_13 rfl rfl rfl ?_
      refine j_iload_n (i := 2) (x := m2) (q := 15) d_Pan_passDay_14 rfl rfl rfl ?_
      refine j_callVi (a := p) (S := []) (q := 18) [.int m2] d_Pan_passDay_15 mw_Pan_isOpen mv_Pan_isOpen ml_Pan_58 (ob_P hp) rfl rfl (c_Pan_isOpen hK p hp m2 X1 Y2) ⟨⟨rfl, rfl⟩, ⟨Nat.le_of_ble_eq_true rfl, Nat.le_of_ble_eq_true rfl⟩, ⟨Nat.le_refl 0, Nat.le_refl 0⟩⟩ (Nat.le_of_ble_eq_true rfl) rfl (fun r6 X4 Y5 => ?_)
      refine j_if_eq (t := 28) (q := 21) d_Pan_passDay_18 (by decide) rfl ?_ ?_
      · refine j_sub (L' := [some (.ref p), some (.int x1), some (.int m2)]) ⟨rfl, ⟨rfl, ⟨rfl, trivial⟩⟩⟩ ?_
        exact jb_Pan_passDay_28 hK p hp (fun a2 A B => l_Pan_passDay_2 p x1 kx n a2 A B) kx x1 m2 ih hkx X4 Y5
      · refine j_aload_n (i := 0) (x := p) (q := 22) d_Pan_passDay_21 rfl rfl rfl ?_
        refine j_iload_n (i := 2) (x := m2) (q := 23) d_Pan_passDay_22 rfl rfl rfl ?_
        refine j_iconst (v := 1) (q := 24) d_Pan_passDay_23 (by decide) rfl ?_
        refine j_callVi (a := p) (S := []) (q := 27) [.int m2, .int (1 : Int32)] d_Pan_passDay_24 mw_Pan_letOn mv_Pan_letOn ml_Pan_92 (ob_P hp) rfl rfl (c_Pan_letOn hK p hp m2 (1 : Int32) X4 Y5) ⟨⟨rfl, rfl⟩, ⟨Nat.le_of_ble_eq_true rfl, Nat.le_of_ble_eq_true rfl⟩, ⟨Nat.le_refl 0, Nat.le_refl 0⟩⟩ (Nat.le_of_ble_eq_true rfl) rfl (fun r9 X7 Y8 => ?_)
        refine j_pop (q := 28) d_Pan_passDay_27 rfl rfl ?_
        refine j_sub (L' := [some (.ref p), some (.int x1), some (.int m2)]) ⟨rfl, ⟨rfl, ⟨rfl, trivial⟩⟩⟩ ?_
        exact jb_Pan_passDay_28 hK p hp (fun a2 A B => l_Pan_passDay_2 p x1 kx n a2 A B) kx x1 m2 ih hkx X7 Y8
set_option maxRecDepth 4000 in
theorem jb_Pan_passDay_67 {K : KK} (hK : kOK K) (p : Nat) (hp : IsP p) (kc : Int32 → HI → HL → Option Out) (kx : Int32 → HI → HL → Option Out) (x1 : Int32) (x2 : Int32) (hkc : ∀ (m2 : Int32) (X : HI) (Y : HL), JO K "BrinePans$Pans" prog_5_method_21_code 3 none rm_Pan_passDay 0 0 (MZ K) 36 [some (.ref p), some (.int x1), some (.int m2)] [] X Y (kc m2 X Y)) (hkx : ∀ (m2 : Int32) (X : HI) (Y : HL), JO K "BrinePans$Pans" prog_5_method_21_code 3 none rm_Pan_passDay 0 0 (MZ K) 73 [some (.ref p), some (.int x1), none] [] X Y (kx m2 X Y)) (X : HI) (Y : HL) : JO K "BrinePans$Pans" prog_5_method_21_code 3 none rm_Pan_passDay 0 0 (MZ K) 67 [some (.ref p), some (.int x1), some (.int x2)] [] X Y (b_Pan_passDay_67 p kc kx x1 x2 X Y) := by
  unfold b_Pan_passDay_67
  refine j_iinc (i := 2) (x := x2) (d := 1) (L' := [some (.ref p), some (.int x1), some (.int (x2 + (1 : Int32)))]) (q := 70) d_Pan_passDay_67 rfl (by decide) (by decide) rfl rfl rfl ?_
  refine j_goto (q := 36) d_Pan_passDay_70 (by decide) ?_
  refine j_sub (L' := [some (.ref p), some (.int x1), some (.int (x2 + (1 : Int32)))]) ⟨rfl, ⟨rfl, ⟨rfl, trivial⟩⟩⟩ ?_
  exact hkc (x2 + (1 : Int32)) X Y
set_option maxRecDepth 4000 in
theorem jl_Pan_passDay_36 {K : KK} (hK : kOK K) (p : Nat) (hp : IsP p) (x1 : Int32) (kx : Int32 → HI → HL → Option Out) (hkx : ∀ (m2 : Int32) (X : HI) (Y : HL), JO K "BrinePans$Pans" prog_5_method_21_code 3 none rm_Pan_passDay 0 0 (MZ K) 73 [some (.ref p), some (.int x1), none] [] X Y (kx m2 X Y)) : ∀ (n : Nat) (m2 : Int32) (X : HI) (Y : HL), JO K "BrinePans$Pans" prog_5_method_21_code 3 none rm_Pan_passDay 0 0 (MZ K) 36 [some (.ref p), some (.int x1), some (.int m2)] [] X Y (l_Pan_passDay_36 p x1 kx n m2 X Y) := by
  intro n
  induction n with
  | zero =>
    intro m2 X Y
    rw [l_Pan_passDay_36]
    exact j_none
  | succ n ih =>
    intro m2 X Y
    rw [l_Pan_passDay_36]
    refine j_iload_n (i := 2) (x := m2) (q := 37) d_Pan_passDay_36 rfl rfl rfl ?_
    refine j_aload_n (i := 0) (x := p) (q := 38) d_Pan_passDay_37 rfl rfl rfl ?_
    refine j_get (v := .ref 3) (q := 41) d_Pan_passDay_38 fk_Pan_28 (fv_P0 hp) rfl ?_
    refine j_get (v := .int (X 3 2)) (q := 44) d_Pan_passDay_41 fk_Pan_49 fv_3_2 rfl ?_
    refine j_icmp_ge (t := 73) (q := 47) d_Pan_passDay_44 (by decide) rfl ?_ ?_
    · refine j_sub (L' := [some (.ref p), some (.int x1), none]) ⟨rfl, ⟨rfl, trivial⟩⟩ ?_
      exact hkx m2 X Y
    · refine j_aload_n (i := 0) (x := p) (q := 48) d_Pan_passDay_47 rfl rfl rfl ?_
      refine j_get (v := .ref 3) (q := 51) d_Pan_passDay_48 fk_Pan_28 (fv_P0 hp) rfl ?_
      refine j_get (v := .ref 4) (q := 54) d_Pan_passDay_51 fk_Pan_95 fv_3_0 rfl ?_
      refine j_iload_n (i := 2) (x := m2) (q := 55) d_Pan_passDay_54 rfl rfl rfl ?_
      refine j_iald (q := 56) d_Pan_passDay_55 ai_4 rfl ?_
      refine j_iconst (v := 3) (q := 57) d_Pan_passDay_56 (by decide) rfl ?_
      refine j_icmp_ne (t := 67) (q := 60) d_Pan_passDay_57 (by decide) rfl ?_ ?_
      · refine j_sub (L' := [some (.ref p), some (.int x1), some (.int m2)]) ⟨rfl, ⟨rfl, ⟨rfl, trivial⟩⟩⟩ ?_
        exact jb_Pan_passDay_67 hK p hp (fun a2 A B => l_Pan_passDay_36 p x1 kx n a2 A B) kx x1 m2 ih hkx X Y
      · refine j_aload_n (i := 0) (x := p) (q := 61) d_Pan_passDay_60 rfl rfl rfl ?_
        refine j_iload_n (i := 2) (x := m2) (q := 62) d_Pan_passDay_61 rfl rfl rfl ?_
        refine j_iconst (v := 1) (q := 63) d_Pan_passDay_62 (by decide) rfl ?_
        refine j_callVi (a := p) (S := []) (q := 66) [.int m2, .int (1 : Int32)] d_Pan_passDay_63 mw_Pan_drain mv_Pan_drain ml_Pan_81 (ob_P hp) rfl rfl (c_Pan_drain hK p hp m2 (1 : Int32) X Y) ⟨⟨rfl, rfl⟩, ⟨Nat.le_of_ble_eq_true rfl, Nat.le_of_ble_eq_true rfl⟩, ⟨Nat.le_refl 0, Nat.le_refl 0⟩⟩ (Nat.le_of_ble_eq_true rfl) rfl (fun r15 X13 Y14 => ?_)
        refine j_pop (q := 67) d_Pan_passDay_66 rfl rfl ?_
        refine j_sub (L' := [some (.ref p), some (.int x1), some (.int m2)]) ⟨rfl, ⟨rfl, ⟨rfl, trivial⟩⟩⟩ ?_
        exact jb_Pan_passDay_67 hK p hp (fun a2 A B => l_Pan_passDay_36 p x1 kx n a2 A B) kx x1 m2 ih hkx X13 Y14
set_option maxRecDepth 4000 in
theorem jb_Pan_passDay_111 {K : KK} (hK : kOK K) (p : Nat) (hp : IsP p) (X : HI) (Y : HL) : JO K "BrinePans$Pans" prog_5_method_21_code 3 none rm_Pan_passDay 0 0 (MZ K) 111 [some (.ref p), none, none] [] X Y (b_Pan_passDay_111 p X Y) := by
  unfold b_Pan_passDay_111
  refine j_aload_n (i := 0) (x := p) (q := 112) d_Pan_passDay_111 rfl rfl rfl ?_
  refine j_dup (q := 113) d_Pan_passDay_112 rfl rfl ?_
  refine j_get (v := .int (X p 5)) (q := 116) d_Pan_passDay_113 fk_Pan_25 (fv_P5 hp) rfl ?_
  refine j_iconst (v := 1) (q := 117) d_Pan_passDay_116 (by decide) rfl ?_
  refine j_iadd (q := 118) d_Pan_passDay_117 rfl ?_
  refine j_putI (q := 121) d_Pan_passDay_118 fp_Pan_25 (fw_P5 hp) rfl (fun X22 => ?_)
  exact j_vret d_Pan_passDay_121
set_option maxRecDepth 4000 in
theorem c_Pan_passDay {K : KK} (hK : kOK K) (p : Nat) (hp : IsP p) (x1 : Int32) (X : HI) (Y : HL) : CT K y_Pan_passDay prog_5_method_21_code 3 none rm_Pan_passDay [.ref p, .int x1] X Y (f_Pan_passDay p x1 X Y) := by
  refine ct_of hK (L := [some (.ref p), some (.int x1), none]) (by decide) ⟨rfl, ⟨rfl, trivial⟩⟩ (Nat.le_of_ble_eq_true rfl) ?_
  unfold f_Pan_passDay
  refine j_iconst (v := 0) (q := 1) d_Pan_passDay_0 (by decide) rfl ?_
  refine j_istore_n (i := 2) (L' := [some (.ref p), some (.int x1), some (.int (0 : Int32))]) (q := 2) d_Pan_passDay_1 rfl (by decide) rfl rfl rfl ?_
  refine j_sub (L' := [some (.ref p), some (.int x1), some (.int (0 : Int32))]) ⟨rfl, ⟨rfl, ⟨rfl, trivial⟩⟩⟩ ?_
  refine jl_Pan_passDay_2 hK p hp x1 _ (fun w10 X11 Y12 => ?_) 256 (0 : Int32) X Y
  refine j_iconst (v := 0) (q := 35) d_Pan_passDay_34 (by decide) rfl ?_
  refine j_istore_n (i := 2) (L' := [some (.ref p), some (.int x1), some (.int (0 : Int32))]) (q := 36) d_Pan_passDay_35 rfl (by decide) rfl rfl rfl ?_
  refine j_sub (L' := [some (.ref p), some (.int x1), some (.int (0 : Int32))]) ⟨rfl, ⟨rfl, ⟨rfl, trivial⟩⟩⟩ ?_
  refine jl_Pan_passDay_36 hK p hp x1 _ (fun w16 X17 Y18 => ?_) 256 (0 : Int32) X11 Y12
  refine j_aload_n (i := 0) (x := p) (q := 74) d_Pan_passDay_73 rfl rfl rfl ?_
  refine j_get (v := .ref 3) (q := 77) d_Pan_passDay_74 fk_Pan_28 (fv_P0 hp) rfl ?_
  refine j_aload_n (i := 0) (x := p) (q := 78) d_Pan_passDay_77 rfl rfl rfl ?_
  refine j_get (v := .int (X17 p 5)) (q := 81) d_Pan_passDay_78 fk_Pan_25 (fv_P5 hp) rfl ?_
  refine j_callVNi (a := 3) (S := []) (q := 84) [.int (X17 p 5)] d_Pan_passDay_81 mw_Gro_skyOf mv_Gro_skyOf ml_Pan_98 ob_3 rfl rfl (c_Gro_skyOf hK (X17 p 5) X17 Y18) ⟨⟨rfl, rfl⟩, ⟨Nat.le_of_ble_eq_true rfl, Nat.le_of_ble_eq_true rfl⟩, ⟨Nat.le_refl 0, Nat.le_refl 0⟩⟩ (Nat.le_of_ble_eq_true rfl) rfl (fun r21 X19 Y20 => ?_)
  refine j_istore_n (i := 2) (L' := [some (.ref p), some (.int x1), some (.int r21)]) (q := 85) d_Pan_passDay_84 rfl (by decide) rfl rfl rfl ?_
  refine j_iload_n (i := 2) (x := r21) (q := 86) d_Pan_passDay_85 rfl rfl rfl ?_
  refine j_if_ge (t := 98) (q := 89) d_Pan_passDay_86 (by decide) rfl ?_ ?_
  · refine j_iload_n (i := 2) (x := r21) (q := 99) d_Pan_passDay_98 rfl rfl rfl ?_
    refine j_if_le (t := 111) (q := 102) d_Pan_passDay_99 (by decide) rfl ?_ ?_
    · refine j_sub (L' := [some (.ref p), none, none]) ⟨rfl, trivial⟩ ?_
      exact jb_Pan_passDay_111 hK p hp X19 Y20
    · refine j_iload_n (i := 1) (x := x1) (q := 103) d_Pan_passDay_102 rfl rfl rfl ?_
      refine j_if_ne (t := 111) (q := 106) d_Pan_passDay_103 (by decide) rfl ?_ ?_
      · refine j_sub (L' := [some (.ref p), none, none]) ⟨rfl, trivial⟩ ?_
        exact jb_Pan_passDay_111 hK p hp X19 Y20
      · refine j_aload_n (i := 0) (x := p) (q := 107) d_Pan_passDay_106 rfl rfl rfl ?_
        refine j_iload_n (i := 2) (x := r21) (q := 108) d_Pan_passDay_107 rfl rfl rfl ?_
        refine j_callVv (a := p) (S := []) (q := 111) [.int r21] d_Pan_passDay_108 mw_Pan_shine mv_Pan_shine ml_Pan_104 (ob_P hp) rfl rfl (c_Pan_shine hK p hp r21 X19 Y20) ⟨⟨rfl, rfl⟩, ⟨Nat.le_of_ble_eq_true rfl, Nat.le_of_ble_eq_true rfl⟩, ⟨Nat.le_refl 0, Nat.le_refl 0⟩⟩ (Nat.le_of_ble_eq_true rfl) rfl (fun X23 Y24 => ?_)
        refine j_sub (L' := [some (.ref p), none, none]) ⟨rfl, trivial⟩ ?_
        exact jb_Pan_passDay_111 hK p hp X23 Y24
  · refine j_aload_n (i := 0) (x := p) (q := 90) d_Pan_passDay_89 rfl rfl rfl ?_
    refine j_iload_n (i := 2) (x := r21) (q := 91) d_Pan_passDay_90 rfl rfl rfl ?_
    refine j_ineg (q := 92) d_Pan_passDay_91 rfl ?_
    refine j_callVv (a := p) (S := []) (q := 95) [.int (-r21)] d_Pan_passDay_92 mw_Pan_rain mv_Pan_rain ml_Pan_101 (ob_P hp) rfl rfl (c_Pan_rain hK p hp (-r21) X19 Y20) ⟨⟨rfl, rfl⟩, ⟨Nat.le_of_ble_eq_true rfl, Nat.le_of_ble_eq_true rfl⟩, ⟨Nat.le_refl 0, Nat.le_refl 0⟩⟩ (Nat.le_of_ble_eq_true rfl) rfl (fun X25 Y26 => ?_)
    refine j_goto (q := 111) d_Pan_passDay_95 (by decide) ?_
    refine j_sub (L' := [some (.ref p), none, none]) ⟨rfl, trivial⟩ ?_
    exact jb_Pan_passDay_111 hK p hp X25 Y26
def l_Pan_passDays_2 (p : Nat) (x1 : Int32) (kx : Int32 → HI → HL → Option Out) : Nat → Int32 → HI → HL → Option Out
  | 0, _, _, _ => none
  | n + 1, m2, X, Y =>
    (if x1 ≤ m2 then
    (kx m2 X Y)
    else
    bv (f_Pan_passDay p (0 : Int32) X Y) (fun X1 Y2 =>
    (l_Pan_passDays_2 p x1 kx n (m2 + (1 : Int32)) X1 Y2)))
def f_Pan_passDays (p : Nat) (x1 : Int32) (X : HI) (Y : HL) : Option Out :=
    (l_Pan_passDays_2 p x1 (fun w3 X4 Y5 =>
    (rV X4 Y5)) 256 (0 : Int32) X Y)
set_option maxRecDepth 4000 in
theorem jl_Pan_passDays_2 {K : KK} (hK : kOK K) (p : Nat) (hp : IsP p) (x1 : Int32) (kx : Int32 → HI → HL → Option Out) (hkx : ∀ (m2 : Int32) (X : HI) (Y : HL), JO K "BrinePans$Pans" prog_5_method_24_code 3 none rm_Pan_passDays 0 0 (MZ K) 18 [none, none, none] [] X Y (kx m2 X Y)) : ∀ (n : Nat) (m2 : Int32) (X : HI) (Y : HL), JO K "BrinePans$Pans" prog_5_method_24_code 3 none rm_Pan_passDays 0 0 (MZ K) 2 [some (.ref p), some (.int x1), some (.int m2)] [] X Y (l_Pan_passDays_2 p x1 kx n m2 X Y) := by
  intro n
  induction n with
  | zero =>
    intro m2 X Y
    rw [l_Pan_passDays_2]
    exact j_none
  | succ n ih =>
    intro m2 X Y
    rw [l_Pan_passDays_2]
    refine j_iload_n (i := 2) (x := m2) (q := 3) d_Pan_passDays_2 rfl rfl rfl ?_
    refine j_iload_n (i := 1) (x := x1) (q := 4) d_Pan_passDays_3 rfl rfl rfl ?_
    refine j_icmp_ge (t := 18) (q := 7) d_Pan_passDays_4 (by decide) rfl ?_ ?_
    · refine j_sub (L' := [none, none, none]) trivial ?_
      exact hkx m2 X Y
    · refine j_aload_n (i := 0) (x := p) (q := 8) d_Pan_passDays_7 rfl rfl rfl ?_
      refine j_iconst (v := 0) (q := 9) d_Pan_passDays_8 (by decide) rfl ?_
      refine j_callVv (a := p) (S := []) (q := 12) [.int (0 : Int32)] d_Pan_passDays_9 mw_Pan_passDay mv_Pan_passDay ml_Pan_110 (ob_P hp) rfl rfl (c_Pan_passDay hK p hp (0 : Int32) X Y) ⟨⟨rfl, rfl⟩, ⟨Nat.le_of_ble_eq_true rfl, Nat.le_of_ble_eq_true rfl⟩, ⟨Nat.le_refl 0, Nat.le_refl 0⟩⟩ (Nat.le_of_ble_eq_true rfl) rfl (fun X1 Y2 => ?_)
      refine j_iinc (i := 2) (x := m2) (d := 1) (L' := [some (.ref p), some (.int x1), some (.int (m2 + (1 : Int32)))]) (q := 15) d_Pan_passDays_12 rfl (by decide) (by decide) rfl rfl rfl ?_
      refine j_goto (q := 2) d_Pan_passDays_15 (by decide) ?_
      refine j_sub (L' := [some (.ref p), some (.int x1), some (.int (m2 + (1 : Int32)))]) ⟨rfl, ⟨rfl, ⟨rfl, trivial⟩⟩⟩ ?_
      exact ih (m2 + (1 : Int32)) X1 Y2
set_option maxRecDepth 4000 in
theorem c_Pan_passDays {K : KK} (hK : kOK K) (p : Nat) (hp : IsP p) (x1 : Int32) (X : HI) (Y : HL) : CT K y_Pan_passDays prog_5_method_24_code 3 none rm_Pan_passDays [.ref p, .int x1] X Y (f_Pan_passDays p x1 X Y) := by
  refine ct_of hK (L := [some (.ref p), some (.int x1), none]) (by decide) ⟨rfl, ⟨rfl, trivial⟩⟩ (Nat.le_of_ble_eq_true rfl) ?_
  unfold f_Pan_passDays
  refine j_iconst (v := 0) (q := 1) d_Pan_passDays_0 (by decide) rfl ?_
  refine j_istore_n (i := 2) (L' := [some (.ref p), some (.int x1), some (.int (0 : Int32))]) (q := 2) d_Pan_passDays_1 rfl (by decide) rfl rfl rfl ?_
  refine j_sub (L' := [some (.ref p), some (.int x1), some (.int (0 : Int32))]) ⟨rfl, ⟨rfl, ⟨rfl, trivial⟩⟩⟩ ?_
  refine jl_Pan_passDays_2 hK p hp x1 _ (fun w3 X4 Y5 => ?_) 256 (0 : Int32) X Y
  exact j_vret d_Pan_passDays_18
def f_Pan_crustBehind (p : Nat) (x1 : Int32) (X : HI) (Y : HL) : Option Out :=
    bv (f_Pan_passDays p x1 X Y) (fun X1 Y2 =>
    bi (f_Pan_crustOfAll p X1 Y2) (fun r5 X3 Y4 =>
    (rI r5 X3 Y4)))
set_option maxRecDepth 4000 in
theorem c_Pan_crustBehind {K : KK} (hK : kOK K) (p : Nat) (hp : IsP p) (x1 : Int32) (X : HI) (Y : HL) : CT K y_Pan_crustBehind prog_5_method_25_code 2 (some .int) rm_Pan_crustBehind [.ref p, .int x1] X Y (f_Pan_crustBehind p x1 X Y) := by
  refine ct_of hK (L := [some (.ref p), some (.int x1)]) (by decide) ⟨rfl, ⟨rfl, trivial⟩⟩ (Nat.le_of_ble_eq_true rfl) ?_
  unfold f_Pan_crustBehind
  refine j_aload_n (i := 0) (x := p) (q := 1) d_Pan_crustBehind_0 rfl rfl rfl ?_
  refine j_iload_n (i := 1) (x := x1) (q := 2) d_Pan_crustBehind_1 rfl rfl rfl ?_
  refine j_callVv (a := p) (S := []) (q := 5) [.int x1] d_Pan_crustBehind_2 mw_Pan_passDays mv_Pan_passDays ml_Pan_114 (ob_P hp) rfl rfl (c_Pan_passDays hK p hp x1 X Y) ⟨⟨rfl, rfl⟩, ⟨Nat.le_of_ble_eq_true rfl, Nat.le_of_ble_eq_true rfl⟩, ⟨Nat.le_refl 0, Nat.le_refl 0⟩⟩ (Nat.le_of_ble_eq_true rfl) rfl (fun X1 Y2 => ?_)
  refine j_aload_n (i := 0) (x := p) (q := 6) d_Pan_crustBehind_5 rfl rfl rfl ?_
  refine j_callVi (a := p) (S := []) (q := 9) [] d_Pan_crustBehind_6 mw_Pan_crustOfAll mv_Pan_crustOfAll ml_Pan_117 (ob_P hp) rfl rfl (c_Pan_crustOfAll hK p hp X1 Y2) ⟨⟨rfl, rfl⟩, ⟨Nat.le_of_ble_eq_true rfl, Nat.le_of_ble_eq_true rfl⟩, ⟨Nat.le_refl 0, Nat.le_refl 0⟩⟩ (Nat.le_of_ble_eq_true rfl) rfl (fun r5 X3 Y4 => ?_)
  exact j_iret d_Pan_crustBehind_9
def b_Pan_isDone_9 (p : Nat) (x1 : Int32) (x2 : Int32) (x3 : Int32) (s0 : Int32) (X : HI) (Y : HL) : Option Out :=
    (if x1 = (0 : Int32) then
    (if s0 = 0 then
    (rI (0 : Int32) X Y)
    else
    (if x3 = 0 then
    bv (f_Pan_passDay p (0 : Int32) X Y) (fun X1 Y2 =>
    (rI (1 : Int32) X1 Y2))
    else
    (rI (0 : Int32) X Y)))
    else
    (if x1 = (1 : Int32) then
    (if s0 = 0 then
    (rI (0 : Int32) X Y)
    else
    bi (f_Pan_takeSea p x3 X Y) (fun r5 X3 Y4 =>
    (if r5 < 0 then
    (rI (0 : Int32) X3 Y4)
    else
    (rI (1 : Int32) X3 Y4))))
    else
    (if x1 = (2 : Int32) then
    bi (f_Pan_letOn p x2 x3 X Y) (fun r8 X6 Y7 =>
    (if r8 < 0 then
    (rI (0 : Int32) X6 Y7)
    else
    (rI (1 : Int32) X6 Y7)))
    else
    (if x1 = (3 : Int32) then
    (if s0 = 0 then
    (rI (0 : Int32) X Y)
    else
    bi (f_Pan_turnGate p x3 X Y) (fun r11 X9 Y10 =>
    (if r11 < 0 then
    (rI (0 : Int32) X9 Y10)
    else
    (rI (1 : Int32) X9 Y10))))
    else
    (if x1 = (4 : Int32) then
    (if s0 = 0 then
    (rI (0 : Int32) X Y)
    else
    bi (f_Pan_rakeUp p x3 X Y) (fun r14 X12 Y13 =>
    (if r14 < 0 then
    (rI (0 : Int32) X12 Y13)
    else
    (rI (1 : Int32) X12 Y13))))
    else
    (if x1 = (5 : Int32) then
    bi (f_Gro_hasPan x2 X Y) (fun r17 X15 Y16 =>
    (if r17 = 0 then
    (rI (0 : Int32) X15 Y16)
    else
    gd (ixb x2 6) (
    (if (X15 (p + 1) x2.toNatClampNeg) < x3 then
    (rI (0 : Int32) X15 Y16)
    else
    (rI (1 : Int32) X15 Y16)))))
    else
    (if x1 = (6 : Int32) then
    bi (f_Gro_hasPan x2 X Y) (fun r20 X18 Y19 =>
    (if r20 = 0 then
    (rI (0 : Int32) X18 Y19)
    else
    bi (f_Pan_crustOf p x2 X18 Y19) (fun r23 X21 Y22 =>
    (if r23 < ((10 : Int32) * x3) then
    (rI (0 : Int32) X21 Y22)
    else
    (rI (1 : Int32) X21 Y22)))))
    else
    (rI (0 : Int32) X Y))))))))
def f_Pan_isDone (p : Nat) (x1 : Int32) (x2 : Int32) (x3 : Int32) (X : HI) (Y : HL) : Option Out :=
    (if x2 = 0 then
    (b_Pan_isDone_9 p x1 x2 x3 (1 : Int32) X Y)
    else
    (b_Pan_isDone_9 p x1 x2 x3 (0 : Int32) X Y))
set_option maxRecDepth 4000 in
theorem jb_Pan_isDone_9 {K : KK} (hK : kOK K) (p : Nat) (hp : IsP p) (x1 : Int32) (x2 : Int32) (x3 : Int32) (s0 : Int32) (X : HI) (Y : HL) : JO K "BrinePans$Pans" prog_5_method_26_code 5 (some .boolean) rm_Pan_isDone 0 0 (MZ K) 9 [some (.ref p), some (.int x1), some (.int x2), some (.int x3), none] [.int s0] X Y (b_Pan_isDone_9 p x1 x2 x3 s0 X Y) := by
  unfold b_Pan_isDone_9
  refine j_istore (i := 4) (L' := [some (.ref p), some (.int x1), some (.int x2), some (.int x3), some (.int s0)]) (q := 11) d_Pan_isDone_9 (by decide) rfl rfl rfl ?_
  refine j_iload_n (i := 1) (x := x1) (q := 12) d_Pan_isDone_11 rfl rfl rfl ?_
  refine j_ite (fun z12_0 => ?_) (fun z12_0 => ?_)
  · refine j_tabIn (z := 0) (t := 56) (off := 44) d_Pan_isDone_12 z12_0 (by decide) (by decide) (by decide) (by decide) ?_
    refine j_iload (i := 4) (x := s0) (q := 58) d_Pan_isDone_56 rfl rfl ?_
    refine j_if_eq (t := 65) (q := 61) d_Pan_isDone_58 (by decide) rfl ?_ ?_
    · refine j_iconst (v := 0) (q := 66) d_Pan_isDone_65 (by decide) rfl ?_
      exact j_zret d_Pan_isDone_66 (by decide)
    · refine j_iload_n (i := 3) (x := x3) (q := 62) d_Pan_isDone_61 rfl rfl rfl ?_
      refine j_if_eq (t := 67) (q := 65) d_Pan_isDone_62 (by decide) rfl ?_ ?_
      · refine j_aload_n (i := 0) (x := p) (q := 68) d_Pan_isDone_67 rfl rfl rfl ?_
        refine j_iconst (v := 0) (q := 69) d_Pan_isDone_68 (by decide) rfl ?_
        refine j_callVv (a := p) (S := []) (q := 72) [.int (0 : Int32)] d_Pan_isDone_69 mw_Pan_passDay mv_Pan_passDay ml_Pan_110 (ob_P hp) rfl rfl (c_Pan_passDay hK p hp (0 : Int32) X Y) ⟨⟨rfl, rfl⟩, ⟨Nat.le_of_ble_eq_true rfl, Nat.le_of_ble_eq_true rfl⟩, ⟨Nat.le_refl 0, Nat.le_refl 0⟩⟩ (Nat.le_of_ble_eq_true rfl) rfl (fun X1 Y2 => ?_)
        refine j_iconst (v := 1) (q := 73) d_Pan_isDone_72 (by decide) rfl ?_
        exact j_zret d_Pan_isDone_73 (by decide)
      · refine j_iconst (v := 0) (q := 66) d_Pan_isDone_65 (by decide) rfl ?_
        exact j_zret d_Pan_isDone_66 (by decide)
  · skip
    refine j_ite (fun z12_1 => ?_) (fun z12_1 => ?_)
    · refine j_tabIn (z := 1) (t := 74) (off := 62) d_Pan_isDone_12 z12_1 (by decide) (by decide) (by decide) (by decide) ?_
      refine j_iload (i := 4) (x := s0) (q := 76) d_Pan_isDone_74 rfl rfl ?_
      refine j_if_eq (t := 91) (q := 79) d_Pan_isDone_76 (by decide) rfl ?_ ?_
      · refine j_iconst (v := 0) (q := 92) d_Pan_isDone_91 (by decide) rfl ?_
        exact j_zret d_Pan_isDone_92 (by decide)
      · refine j_aload_n (i := 0) (x := p) (q := 80) d_Pan_isDone_79 rfl rfl rfl ?_
        refine j_iload_n (i := 3) (x := x3) (q := 81) d_Pan_isDone_80 rfl rfl rfl ?_
        refine j_callVi (a := p) (S := []) (q := 84) [.int x3] d_Pan_isDone_81 mw_Pan_takeSea mv_Pan_takeSea ml_Pan_120 (ob_P hp) rfl rfl (c_Pan_takeSea hK p hp x3 X Y) ⟨⟨rfl, rfl⟩, ⟨Nat.le_of_ble_eq_true rfl, Nat.le_of_ble_eq_true rfl⟩, ⟨Nat.le_refl 0, Nat.le_refl 0⟩⟩ (Nat.le_of_ble_eq_true rfl) rfl (fun r5 X3 Y4 => ?_)
        refine j_if_lt (t := 91) (q := 87) d_Pan_isDone_84 (by decide) rfl ?_ ?_
        · refine j_iconst (v := 0) (q := 92) d_Pan_isDone_91 (by decide) rfl ?_
          exact j_zret d_Pan_isDone_92 (by decide)
        · refine j_iconst (v := 1) (q := 88) d_Pan_isDone_87 (by decide) rfl ?_
          refine j_goto (q := 92) d_Pan_isDone_88 (by decide) ?_
          exact j_zret d_Pan_isDone_92 (by decide)
    · skip
      refine j_ite (fun z12_2 => ?_) (fun z12_2 => ?_)
      · refine j_tabIn (z := 2) (t := 93) (off := 81) d_Pan_isDone_12 z12_2 (by decide) (by decide) (by decide) (by decide) ?_
        refine j_aload_n (i := 0) (x := p) (q := 94) d_Pan_isDone_93 rfl rfl rfl ?_
        refine j_iload_n (i := 2) (x := x2) (q := 95) d_Pan_isDone_94 rfl rfl rfl ?_
        refine j_iload_n (i := 3) (x := x3) (q := 96) d_Pan_isDone_95 rfl rfl rfl ?_
        refine j_callVi (a := p) (S := []) (q := 99) [.int x2, .int x3] d_Pan_isDone_96 mw_Pan_letOn mv_Pan_letOn ml_Pan_92 (ob_P hp) rfl rfl (c_Pan_letOn hK p hp x2 x3 X Y) ⟨⟨rfl, rfl⟩, ⟨Nat.le_of_ble_eq_true rfl, Nat.le_of_ble_eq_true rfl⟩, ⟨Nat.le_refl 0, Nat.le_refl 0⟩⟩ (Nat.le_of_ble_eq_true rfl) rfl (fun r8 X6 Y7 => ?_)
        refine j_if_lt (t := 106) (q := 102) d_Pan_isDone_99 (by decide) rfl ?_ ?_
        · refine j_iconst (v := 0) (q := 107) d_Pan_isDone_106 (by decide) rfl ?_
          exact j_zret d_Pan_isDone_107 (by decide)
        · refine j_iconst (v := 1) (q := 103) d_Pan_isDone_102 (by decide) rfl ?_
          refine j_goto (q := 107) d_Pan_isDone_103 (by decide) ?_
          exact j_zret d_Pan_isDone_107 (by decide)
      · skip
        refine j_ite (fun z12_3 => ?_) (fun z12_3 => ?_)
        · refine j_tabIn (z := 3) (t := 108) (off := 96) d_Pan_isDone_12 z12_3 (by decide) (by decide) (by decide) (by decide) ?_
          refine j_iload (i := 4) (x := s0) (q := 110) d_Pan_isDone_108 rfl rfl ?_
          refine j_if_eq (t := 125) (q := 113) d_Pan_isDone_110 (by decide) rfl ?_ ?_
          · refine j_iconst (v := 0) (q := 126) d_Pan_isDone_125 (by decide) rfl ?_
            exact j_zret d_Pan_isDone_126 (by decide)
          · refine j_aload_n (i := 0) (x := p) (q := 114) d_Pan_isDone_113 rfl rfl rfl ?_
            refine j_iload_n (i := 3) (x := x3) (q := 115) d_Pan_isDone_114 rfl rfl rfl ?_
            refine j_callVi (a := p) (S := []) (q := 118) [.int x3] d_Pan_isDone_115 mw_Pan_turnGate mv_Pan_turnGate ml_Pan_123 (ob_P hp) rfl rfl (c_Pan_turnGate hK p hp x3 X Y) ⟨⟨rfl, rfl⟩, ⟨Nat.le_of_ble_eq_true rfl, Nat.le_of_ble_eq_true rfl⟩, ⟨Nat.le_refl 0, Nat.le_refl 0⟩⟩ (Nat.le_of_ble_eq_true rfl) rfl (fun r11 X9 Y10 => ?_)
            refine j_if_lt (t := 125) (q := 121) d_Pan_isDone_118 (by decide) rfl ?_ ?_
            · refine j_iconst (v := 0) (q := 126) d_Pan_isDone_125 (by decide) rfl ?_
              exact j_zret d_Pan_isDone_126 (by decide)
            · refine j_iconst (v := 1) (q := 122) d_Pan_isDone_121 (by decide) rfl ?_
              refine j_goto (q := 126) d_Pan_isDone_122 (by decide) ?_
              exact j_zret d_Pan_isDone_126 (by decide)
        · skip
          refine j_ite (fun z12_4 => ?_) (fun z12_4 => ?_)
          · refine j_tabIn (z := 4) (t := 127) (off := 115) d_Pan_isDone_12 z12_4 (by decide) (by decide) (by decide) (by decide) ?_
            refine j_iload (i := 4) (x := s0) (q := 129) d_Pan_isDone_127 rfl rfl ?_
            refine j_if_eq (t := 144) (q := 132) d_Pan_isDone_129 (by decide) rfl ?_ ?_
            · refine j_iconst (v := 0) (q := 145) d_Pan_isDone_144 (by decide) rfl ?_
              exact j_zret d_Pan_isDone_145 (by decide)
            · refine j_aload_n (i := 0) (x := p) (q := 133) d_Pan_isDone_132 rfl rfl rfl ?_
              refine j_iload_n (i := 3) (x := x3) (q := 134) d_Pan_isDone_133 rfl rfl rfl ?_
              refine j_callVi (a := p) (S := []) (q := 137) [.int x3] d_Pan_isDone_134 mw_Pan_rakeUp mv_Pan_rakeUp ml_Pan_126 (ob_P hp) rfl rfl (c_Pan_rakeUp hK p hp x3 X Y) ⟨⟨rfl, rfl⟩, ⟨Nat.le_of_ble_eq_true rfl, Nat.le_of_ble_eq_true rfl⟩, ⟨Nat.le_refl 0, Nat.le_refl 0⟩⟩ (Nat.le_of_ble_eq_true rfl) rfl (fun r14 X12 Y13 => ?_)
              refine j_if_lt (t := 144) (q := 140) d_Pan_isDone_137 (by decide) rfl ?_ ?_
              · refine j_iconst (v := 0) (q := 145) d_Pan_isDone_144 (by decide) rfl ?_
                exact j_zret d_Pan_isDone_145 (by decide)
              · refine j_iconst (v := 1) (q := 141) d_Pan_isDone_140 (by decide) rfl ?_
                refine j_goto (q := 145) d_Pan_isDone_141 (by decide) ?_
                exact j_zret d_Pan_isDone_145 (by decide)
          · skip
            refine j_ite (fun z12_5 => ?_) (fun z12_5 => ?_)
            · refine j_tabIn (z := 5) (t := 146) (off := 134) d_Pan_isDone_12 z12_5 (by decide) (by decide) (by decide) (by decide) ?_
              refine j_aload_n (i := 0) (x := p) (q := 147) d_Pan_isDone_146 rfl rfl rfl ?_
              refine j_get (v := .ref 3) (q := 150) d_Pan_isDone_147 fk_Pan_28 (fv_P0 hp) rfl ?_
              refine j_iload_n (i := 2) (x := x2) (q := 151) d_Pan_isDone_150 rfl rfl rfl ?_
              refine j_callVNi (a := 3) (S := []) (q := 154) [.int x2] d_Pan_isDone_151 mw_Gro_hasPan mv_Gro_hasPan ml_Pan_36 ob_3 rfl rfl (c_Gro_hasPan hK x2 X Y) ⟨⟨rfl, rfl⟩, ⟨Nat.le_of_ble_eq_true rfl, Nat.le_of_ble_eq_true rfl⟩, ⟨Nat.le_refl 0, Nat.le_refl 0⟩⟩ (Nat.le_of_ble_eq_true rfl) rfl (fun r17 X15 Y16 => ?_)
              refine j_if_eq (t := 171) (q := 157) d_Pan_isDone_154 (by decide) rfl ?_ ?_
              · refine j_iconst (v := 0) (q := 172) d_Pan_isDone_171 (by decide) rfl ?_
                exact j_zret d_Pan_isDone_172 (by decide)
              · refine j_aload_n (i := 0) (x := p) (q := 158) d_Pan_isDone_157 rfl rfl rfl ?_
                refine j_get (v := .ref (p + 1)) (q := 161) d_Pan_isDone_158 fk_Pan_9 (fv_P1 hp) rfl ?_
                refine j_iload_n (i := 2) (x := x2) (q := 162) d_Pan_isDone_161 rfl rfl rfl ?_
                refine j_iald (q := 163) d_Pan_isDone_162 (ai_P1 hp) rfl ?_
                refine j_iload_n (i := 3) (x := x3) (q := 164) d_Pan_isDone_163 rfl rfl rfl ?_
                refine j_icmp_lt (t := 171) (q := 167) d_Pan_isDone_164 (by decide) rfl ?_ ?_
                · refine j_iconst (v := 0) (q := 172) d_Pan_isDone_171 (by decide) rfl ?_
                  exact j_zret d_Pan_isDone_172 (by decide)
                · refine j_iconst (v := 1) (q := 168) d_Pan_isDone_167 (by decide) rfl ?_
                  refine j_goto (q := 172) d_Pan_isDone_168 (by decide) ?_
                  exact j_zret d_Pan_isDone_172 (by decide)
            · skip
              refine j_ite (fun z12_6 => ?_) (fun z12_6 => ?_)
              · refine j_tabIn (z := 6) (t := 173) (off := 161) d_Pan_isDone_12 z12_6 (by decide) (by decide) (by decide) (by decide) ?_
                refine j_aload_n (i := 0) (x := p) (q := 174) d_Pan_isDone_173 rfl rfl rfl ?_
                refine j_get (v := .ref 3) (q := 177) d_Pan_isDone_174 fk_Pan_28 (fv_P0 hp) rfl ?_
                refine j_iload_n (i := 2) (x := x2) (q := 178) d_Pan_isDone_177 rfl rfl rfl ?_
                refine j_callVNi (a := 3) (S := []) (q := 181) [.int x2] d_Pan_isDone_178 mw_Gro_hasPan mv_Gro_hasPan ml_Pan_36 ob_3 rfl rfl (c_Gro_hasPan hK x2 X Y) ⟨⟨rfl, rfl⟩, ⟨Nat.le_of_ble_eq_true rfl, Nat.le_of_ble_eq_true rfl⟩, ⟨Nat.le_refl 0, Nat.le_refl 0⟩⟩ (Nat.le_of_ble_eq_true rfl) rfl (fun r20 X18 Y19 => ?_)
                refine j_if_eq (t := 200) (q := 184) d_Pan_isDone_181 (by decide) rfl ?_ ?_
                · refine j_iconst (v := 0) (q := 201) d_Pan_isDone_200 (by decide) rfl ?_
                  exact j_zret d_Pan_isDone_201 (by decide)
                · refine j_aload_n (i := 0) (x := p) (q := 185) d_Pan_isDone_184 rfl rfl rfl ?_
                  refine j_iload_n (i := 2) (x := x2) (q := 186) d_Pan_isDone_185 rfl rfl rfl ?_
                  refine j_callVi (a := p) (S := []) (q := 189) [.int x2] d_Pan_isDone_186 mw_Pan_crustOf mv_Pan_crustOf ml_Pan_52 (ob_P hp) rfl rfl (c_Pan_crustOf hK p hp x2 X18 Y19) ⟨⟨rfl, rfl⟩, ⟨Nat.le_of_ble_eq_true rfl, Nat.le_of_ble_eq_true rfl⟩, ⟨Nat.le_refl 0, Nat.le_refl 0⟩⟩ (Nat.le_of_ble_eq_true rfl) rfl (fun r23 X21 Y22 => ?_)
                  refine j_bipush (v := 10) (q := 191) d_Pan_isDone_189 (by decide +kernel) rfl ?_
                  refine j_iload_n (i := 3) (x := x3) (q := 192) d_Pan_isDone_191 rfl rfl rfl ?_
                  refine j_imul (q := 193) d_Pan_isDone_192 rfl ?_
                  refine j_icmp_lt (t := 200) (q := 196) d_Pan_isDone_193 (by decide) rfl ?_ ?_
                  · refine j_iconst (v := 0) (q := 201) d_Pan_isDone_200 (by decide) rfl ?_
                    exact j_zret d_Pan_isDone_201 (by decide)
                  · refine j_iconst (v := 1) (q := 197) d_Pan_isDone_196 (by decide) rfl ?_
                    refine j_goto (q := 201) d_Pan_isDone_197 (by decide) ?_
                    exact j_zret d_Pan_isDone_201 (by decide)
              · skip
                refine j_tabOut (t := 202) d_Pan_isDone_12 (tab_out 6 (fun j hj => by rcases (show j = 0 ∨ j = 1 ∨ j = 2 ∨ j = 3 ∨ j = 4 ∨ j = 5 ∨ j = 6 by omega) with rfl | rfl | rfl | rfl | rfl | rfl | rfl <;> first | exact ne_toInt z12_0 | exact ne_toInt z12_1 | exact ne_toInt z12_2 | exact ne_toInt z12_3 | exact ne_toInt z12_4 | exact ne_toInt z12_5 | exact ne_toInt z12_6)) (by decide) ?_
                refine j_iconst (v := 0) (q := 203) d_Pan_isDone_202 (by decide) rfl ?_
                exact j_zret d_Pan_isDone_203 (by decide)
set_option maxRecDepth 4000 in
theorem c_Pan_isDone {K : KK} (hK : kOK K) (p : Nat) (hp : IsP p) (x1 : Int32) (x2 : Int32) (x3 : Int32) (X : HI) (Y : HL) : CT K y_Pan_isDone prog_5_method_26_code 5 (some .boolean) rm_Pan_isDone [.ref p, .int x1, .int x2, .int x3] X Y (f_Pan_isDone p x1 x2 x3 X Y) := by
  refine ct_of hK (L := [some (.ref p), some (.int x1), some (.int x2), some (.int x3), none]) (by decide) ⟨rfl, ⟨rfl, ⟨rfl, ⟨rfl, trivial⟩⟩⟩⟩ (Nat.le_of_ble_eq_true rfl) ?_
  unfold f_Pan_isDone
  refine j_iload_n (i := 2) (x := x2) (q := 1) d_Pan_isDone_0 rfl rfl rfl ?_
  refine j_if_ne (t := 8) (q := 4) d_Pan_isDone_1 (by decide) rfl ?_ ?_
  · refine j_iconst (v := 0) (q := 9) d_Pan_isDone_8 (by decide) rfl ?_
    refine j_sub (L' := [some (.ref p), some (.int x1), some (.int x2), some (.int x3), none]) ⟨rfl, ⟨rfl, ⟨rfl, ⟨rfl, trivial⟩⟩⟩⟩ ?_
    exact jb_Pan_isDone_9 hK p hp x1 x2 x3 (0 : Int32) X Y
  · refine j_iconst (v := 1) (q := 5) d_Pan_isDone_4 (by decide) rfl ?_
    refine j_goto (q := 9) d_Pan_isDone_5 (by decide) ?_
    refine j_sub (L' := [some (.ref p), some (.int x1), some (.int x2), some (.int x3), none]) ⟨rfl, ⟨rfl, ⟨rfl, ⟨rfl, trivial⟩⟩⟩⟩ ?_
    exact jb_Pan_isDone_9 hK p hp x1 x2 x3 (1 : Int32) X Y
def f_Pan_befall (p : Nat) (x1 : Int32) (X : HI) (Y : HL) : Option Out :=
    (if (5 : Int32) ≤ x1 then
    (if (10 : Int32) ≤ x1 then
    (if (12 : Int32) ≤ x1 then
    bv (f_Pan_passDay p (0 : Int32) X Y) (fun X1 Y2 =>
    (rV X1 Y2))
    else
    bi (f_Pan_takeSea p (3 : Int32) X Y) (fun r5 X3 Y4 =>
    (rV X3 Y4)))
    else
    bi (f_Pan_letOn p (x1 - (5 : Int32)) (1 : Int32) X Y) (fun r8 X6 Y7 =>
    (rV X6 Y7)))
    else
    bi (f_Pan_turnGate p x1 X Y) (fun r11 X9 Y10 =>
    (rV X9 Y10)))
set_option maxRecDepth 4000 in
theorem c_Pan_befall {K : KK} (hK : kOK K) (p : Nat) (hp : IsP p) (x1 : Int32) (X : HI) (Y : HL) : CT K y_Pan_befall prog_5_method_27_code 2 none rm_Pan_befall [.ref p, .int x1] X Y (f_Pan_befall p x1 X Y) := by
  refine ct_of hK (L := [some (.ref p), some (.int x1)]) (by decide) ⟨rfl, ⟨rfl, trivial⟩⟩ (Nat.le_of_ble_eq_true rfl) ?_
  unfold f_Pan_befall
  refine j_iload_n (i := 1) (x := x1) (q := 1) d_Pan_befall_0 rfl rfl rfl ?_
  refine j_iconst (v := 5) (q := 2) d_Pan_befall_1 (by decide) rfl ?_
  refine j_icmp_ge (t := 14) (q := 5) d_Pan_befall_2 (by decide) rfl ?_ ?_
  · refine j_iload_n (i := 1) (x := x1) (q := 15) d_Pan_befall_14 rfl rfl rfl ?_
    refine j_bipush (v := 10) (q := 17) d_Pan_befall_15 (by decide +kernel) rfl ?_
    refine j_icmp_ge (t := 32) (q := 20) d_Pan_befall_17 (by decide) rfl ?_ ?_
    · refine j_iload_n (i := 1) (x := x1) (q := 33) d_Pan_befall_32 rfl rfl rfl ?_
      refine j_bipush (v := 12) (q := 35) d_Pan_befall_33 (by decide +kernel) rfl ?_
      refine j_icmp_ge (t := 47) (q := 38) d_Pan_befall_35 (by decide) rfl ?_ ?_
      · refine j_aload_n (i := 0) (x := p) (q := 48) d_Pan_befall_47 rfl rfl rfl ?_
        refine j_iconst (v := 0) (q := 49) d_Pan_befall_48 (by decide) rfl ?_
        refine j_callVv (a := p) (S := []) (q := 52) [.int (0 : Int32)] d_Pan_befall_49 mw_Pan_passDay mv_Pan_passDay ml_Pan_110 (ob_P hp) rfl rfl (c_Pan_passDay hK p hp (0 : Int32) X Y) ⟨⟨rfl, rfl⟩, ⟨Nat.le_of_ble_eq_true rfl, Nat.le_of_ble_eq_true rfl⟩, ⟨Nat.le_refl 0, Nat.le_refl 0⟩⟩ (Nat.le_of_ble_eq_true rfl) rfl (fun X1 Y2 => ?_)
        exact j_vret d_Pan_befall_52
      · refine j_aload_n (i := 0) (x := p) (q := 39) d_Pan_befall_38 rfl rfl rfl ?_
        refine j_iconst (v := 3) (q := 40) d_Pan_befall_39 (by decide) rfl ?_
        refine j_callVi (a := p) (S := []) (q := 43) [.int (3 : Int32)] d_Pan_befall_40 mw_Pan_takeSea mv_Pan_takeSea ml_Pan_120 (ob_P hp) rfl rfl (c_Pan_takeSea hK p hp (3 : Int32) X Y) ⟨⟨rfl, rfl⟩, ⟨Nat.le_of_ble_eq_true rfl, Nat.le_of_ble_eq_true rfl⟩, ⟨Nat.le_refl 0, Nat.le_refl 0⟩⟩ (Nat.le_of_ble_eq_true rfl) rfl (fun r5 X3 Y4 => ?_)
        refine j_pop (q := 44) d_Pan_befall_43 rfl rfl ?_
        refine j_goto (q := 52) d_Pan_befall_44 (by decide) ?_
        exact j_vret d_Pan_befall_52
    · refine j_aload_n (i := 0) (x := p) (q := 21) d_Pan_befall_20 rfl rfl rfl ?_
      refine j_iload_n (i := 1) (x := x1) (q := 22) d_Pan_befall_21 rfl rfl rfl ?_
      refine j_iconst (v := 5) (q := 23) d_Pan_befall_22 (by decide) rfl ?_
      refine j_isub (q := 24) d_Pan_befall_23 rfl ?_
      refine j_iconst (v := 1) (q := 25) d_Pan_befall_24 (by decide) rfl ?_
      refine j_callVi (a := p) (S := []) (q := 28) [.int (x1 - (5 : Int32)), .int (1 : Int32)] d_Pan_befall_25 mw_Pan_letOn mv_Pan_letOn ml_Pan_92 (ob_P hp) rfl rfl (c_Pan_letOn hK p hp (x1 - (5 : Int32)) (1 : Int32) X Y) ⟨⟨rfl, rfl⟩, ⟨Nat.le_of_ble_eq_true rfl, Nat.le_of_ble_eq_true rfl⟩, ⟨Nat.le_refl 0, Nat.le_refl 0⟩⟩ (Nat.le_of_ble_eq_true rfl) rfl (fun r8 X6 Y7 => ?_)
      refine j_pop (q := 29) d_Pan_befall_28 rfl rfl ?_
      refine j_goto (q := 52) d_Pan_befall_29 (by decide) ?_
      exact j_vret d_Pan_befall_52
  · refine j_aload_n (i := 0) (x := p) (q := 6) d_Pan_befall_5 rfl rfl rfl ?_
    refine j_iload_n (i := 1) (x := x1) (q := 7) d_Pan_befall_6 rfl rfl rfl ?_
    refine j_callVi (a := p) (S := []) (q := 10) [.int x1] d_Pan_befall_7 mw_Pan_turnGate mv_Pan_turnGate ml_Pan_123 (ob_P hp) rfl rfl (c_Pan_turnGate hK p hp x1 X Y) ⟨⟨rfl, rfl⟩, ⟨Nat.le_of_ble_eq_true rfl, Nat.le_of_ble_eq_true rfl⟩, ⟨Nat.le_refl 0, Nat.le_refl 0⟩⟩ (Nat.le_of_ble_eq_true rfl) rfl (fun r11 X9 Y10 => ?_)
    refine j_pop (q := 11) d_Pan_befall_10 rfl rfl ?_
    refine j_goto (q := 52) d_Pan_befall_11 (by decide) ?_
    exact j_vret d_Pan_befall_52
def f_Int_bitCount (x0 : Int32) (X : HI) (Y : HL) : Option Out :=
    lt (x0 - (((x0.toUInt32 >>> ((1 : Int32).toUInt32 &&& Int32.toUInt32 31)).toInt32) &&& (1431655765 : Int32))) (fun v1 =>
    lt ((v1 &&& (858993459 : Int32)) + (((v1.toUInt32 >>> ((2 : Int32).toUInt32 &&& Int32.toUInt32 31)).toInt32) &&& (858993459 : Int32))) (fun v2 =>
    lt ((v2 + ((v2.toUInt32 >>> ((4 : Int32).toUInt32 &&& Int32.toUInt32 31)).toInt32)) &&& (252645135 : Int32)) (fun v3 =>
    lt (v3 + ((v3.toUInt32 >>> ((8 : Int32).toUInt32 &&& Int32.toUInt32 31)).toInt32)) (fun v4 =>
    lt (v4 + ((v4.toUInt32 >>> ((16 : Int32).toUInt32 &&& Int32.toUInt32 31)).toInt32)) (fun v5 =>
    (rI (v5 &&& (63 : Int32)) X Y))))))
set_option maxRecDepth 4000 in
theorem c_Int_bitCount {K : KK} (hK : kOK K) (x0 : Int32) (X : HI) (Y : HL) : CT K y_Int_bitCount prog_9_method_49_code 1 (some .int) rm_Int_bitCount [.int x0] X Y (f_Int_bitCount x0 X Y) := by
  refine ct_of hK (L := [some (.int x0)]) (by decide) ⟨rfl, trivial⟩ (Nat.le_of_ble_eq_true rfl) ?_
  unfold f_Int_bitCount
  refine j_iload_n (i := 0) (x := x0) (q := 1) d_Int_bitCount_0 rfl rfl rfl ?_
  refine j_iload_n (i := 0) (x := x0) (q := 2) d_Int_bitCount_1 rfl rfl rfl ?_
  refine j_iconst (v := 1) (q := 3) d_Int_bitCount_2 (by decide) rfl ?_
  refine j_iushr (q := 4) d_Int_bitCount_3 rfl ?_
  refine j_ldcw (v := 1431655765) (q := 7) d_Int_bitCount_4 (gw_t 431 (by decide +kernel) (by decide +kernel)) rfl ?_
  refine j_iand (q := 8) d_Int_bitCount_7 rfl ?_
  refine j_isub (q := 9) d_Int_bitCount_8 rfl ?_
  refine j_lt (fun v1 => ?_)
  refine j_istore_n (i := 0) (L' := [some (.int v1)]) (q := 10) d_Int_bitCount_9 rfl (by decide) rfl rfl rfl ?_
  refine j_iload_n (i := 0) (x := v1) (q := 11) d_Int_bitCount_10 rfl rfl rfl ?_
  refine j_ldcw (v := 858993459) (q := 14) d_Int_bitCount_11 (gw_t 432 (by decide +kernel) (by decide +kernel)) rfl ?_
  refine j_iand (q := 15) d_Int_bitCount_14 rfl ?_
  refine j_iload_n (i := 0) (x := v1) (q := 16) d_Int_bitCount_15 rfl rfl rfl ?_
  refine j_iconst (v := 2) (q := 17) d_Int_bitCount_16 (by decide) rfl ?_
  refine j_iushr (q := 18) d_Int_bitCount_17 rfl ?_
  refine j_ldcw (v := 858993459) (q := 21) d_Int_bitCount_18 (gw_t 432 (by decide +kernel) (by decide +kernel)) rfl ?_
  refine j_iand (q := 22) d_Int_bitCount_21 rfl ?_
  refine j_iadd (q := 23) d_Int_bitCount_22 rfl ?_
  refine j_lt (fun v2 => ?_)
  refine j_istore_n (i := 0) (L' := [some (.int v2)]) (q := 24) d_Int_bitCount_23 rfl (by decide) rfl rfl rfl ?_
  refine j_iload_n (i := 0) (x := v2) (q := 25) d_Int_bitCount_24 rfl rfl rfl ?_
  refine j_iload_n (i := 0) (x := v2) (q := 26) d_Int_bitCount_25 rfl rfl rfl ?_
  refine j_iconst (v := 4) (q := 27) d_Int_bitCount_26 (by decide) rfl ?_
  refine j_iushr (q := 28) d_Int_bitCount_27 rfl ?_
  refine j_iadd (q := 29) d_Int_bitCount_28 rfl ?_
  refine j_ldcw (v := 252645135) (q := 32) d_Int_bitCount_29 (gw_t 433 (by decide +kernel) (by decide +kernel)) rfl ?_
  refine j_iand (q := 33) d_Int_bitCount_32 rfl ?_
  refine j_lt (fun v3 => ?_)
  refine j_istore_n (i := 0) (L' := [some (.int v3)]) (q := 34) d_Int_bitCount_33 rfl (by decide) rfl rfl rfl ?_
  refine j_iload_n (i := 0) (x := v3) (q := 35) d_Int_bitCount_34 rfl rfl rfl ?_
  refine j_iload_n (i := 0) (x := v3) (q := 36) d_Int_bitCount_35 rfl rfl rfl ?_
  refine j_bipush (v := 8) (q := 38) d_Int_bitCount_36 (by decide +kernel) rfl ?_
  refine j_iushr (q := 39) d_Int_bitCount_38 rfl ?_
  refine j_iadd (q := 40) d_Int_bitCount_39 rfl ?_
  refine j_lt (fun v4 => ?_)
  refine j_istore_n (i := 0) (L' := [some (.int v4)]) (q := 41) d_Int_bitCount_40 rfl (by decide) rfl rfl rfl ?_
  refine j_iload_n (i := 0) (x := v4) (q := 42) d_Int_bitCount_41 rfl rfl rfl ?_
  refine j_iload_n (i := 0) (x := v4) (q := 43) d_Int_bitCount_42 rfl rfl rfl ?_
  refine j_bipush (v := 16) (q := 45) d_Int_bitCount_43 (by decide +kernel) rfl ?_
  refine j_iushr (q := 46) d_Int_bitCount_45 rfl ?_
  refine j_iadd (q := 47) d_Int_bitCount_46 rfl ?_
  refine j_lt (fun v5 => ?_)
  refine j_istore_n (i := 0) (L' := [some (.int v5)]) (q := 48) d_Int_bitCount_47 rfl (by decide) rfl rfl rfl ?_
  refine j_iload_n (i := 0) (x := v5) (q := 49) d_Int_bitCount_48 rfl rfl rfl ?_
  refine j_bipush (v := 63) (q := 51) d_Int_bitCount_49 (by decide +kernel) rfl ?_
  refine j_iand (q := 52) d_Int_bitCount_51 rfl ?_
  exact j_iret d_Int_bitCount_52
