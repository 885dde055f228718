def f_Act_clear (X : HI) (Y : HL) : Option Out :=
    lh (up X 6 2 (0 : Int32)) (fun X1 =>
    (rV X1 Y))
set_option maxRecDepth 4000 in
theorem c_Act_clear {K : KK} (hK : kOK K) (X : HI) (Y : HL) : CT K y_Act_clear prog_2_method_2_code 1 none rm_Act_clear [.ref 6] X Y (f_Act_clear X Y) := by
  refine ct_of hK (L := [some (.ref 6)]) (by decide) ⟨rfl, trivial⟩ (Nat.le_of_ble_eq_true rfl) ?_
  unfold f_Act_clear
  refine j_aload_n (i := 0) (x := 6) (q := 1) d_Act_clear_0 rfl rfl rfl ?_
  refine j_iconst (v := 0) (q := 2) d_Act_clear_1 (by decide) rfl ?_
  refine j_putI (q := 5) d_Act_clear_2 fp_Act_21 fw_6_2 rfl (fun X1 => ?_)
  exact j_vret d_Act_clear_5
def f_Act_add (X : HI) (Y : HL) : Option Out :=
    gd (ixb (X 6 1) 14) (
    bv (f_Pan_copy (rA 7 (X 6 1).toNatClampNeg) 16 X Y) (fun X2 Y3 =>
    gd (nzb (14 : Int32)) (
    lh (up X2 6 1 (((X2 6 1) + (1 : Int32)) - ((X2 6 1) + (1 : Int32)) / (14 : Int32) * (14 : Int32))) (fun X4 =>
    lh (up X4 6 2 (if ((X4 6 2) + (1 : Int32)) < (14 : Int32) then ((X4 6 2) + (1 : Int32)) else (14 : Int32))) (fun X5 =>
    (rV X5 Y3))))))
set_option maxRecDepth 4000 in
theorem c_Act_add {K : KK} (hK : kOK K) (X : HI) (Y : HL) : CT K y_Act_add prog_2_method_3_code 2 none rm_Act_add [.ref 6, .ref 16] X Y (f_Act_add X Y) := by
  refine ct_of hK (L := [some (.ref 6), some (.ref 16)]) (by decide) ⟨rfl, ⟨rfl, trivial⟩⟩ (Nat.le_of_ble_eq_true rfl) ?_
  unfold f_Act_add
  refine j_aload_n (i := 0) (x := 6) (q := 1) d_Act_add_0 rfl rfl rfl ?_
  refine j_get (v := .ref 7) (q := 4) d_Act_add_1 fk_Act_11 fv_6_0 rfl ?_
  refine j_aload_n (i := 0) (x := 6) (q := 5) d_Act_add_4 rfl rfl rfl ?_
  refine j_get (v := .int (X 6 1)) (q := 8) d_Act_add_5 fk_Act_17 fv_6_1 rfl ?_
  refine j_aald (q := 9) d_Act_add_8 ar_7 rfl (fun hr1 => ?_)
  refine j_aload_n (i := 1) (x := 16) (q := 10) d_Act_add_9 rfl rfl rfl ?_
  refine j_callVNv (a := (rA 7 (X 6 1).toNatClampNeg)) (S := []) (q := 13) [.ref 16] d_Act_add_10 mw_Pan_copy mv_Pan_copy ml_Act_27 (ob_P (isP_r7 hr1)) rfl rfl (c_Pan_copy hK (rA 7 (X 6 1).toNatClampNeg) 16 (isP_r7 hr1) isP_16 X Y) ⟨⟨rfl, rfl⟩, ⟨Nat.le_of_ble_eq_true rfl, Nat.le_of_ble_eq_true rfl⟩, ⟨Nat.le_refl 0, Nat.le_refl 0⟩⟩ (Nat.le_of_ble_eq_true rfl) rfl (fun X2 Y3 => ?_)
  refine j_aload_n (i := 0) (x := 6) (q := 14) d_Act_add_13 rfl rfl rfl ?_
  refine j_aload_n (i := 0) (x := 6) (q := 15) d_Act_add_14 rfl rfl rfl ?_
  refine j_get (v := .int (X2 6 1)) (q := 18) d_Act_add_15 fk_Act_17 fv_6_1 rfl ?_
  refine j_iconst (v := 1) (q := 19) d_Act_add_18 (by decide) rfl ?_
  refine j_iadd (q := 20) d_Act_add_19 rfl ?_
  refine j_bipush (v := 14) (q := 22) d_Act_add_20 (by decide +kernel) rfl ?_
  refine j_irem (q := 23) d_Act_add_22 rfl ?_
  refine j_putI (q := 26) d_Act_add_23 fp_Act_17 fw_6_1 rfl (fun X4 => ?_)
  refine j_aload_n (i := 0) (x := 6) (q := 27) d_Act_add_26 rfl rfl rfl ?_
  refine j_bipush (v := 14) (q := 29) d_Act_add_27 (by decide +kernel) rfl ?_
  refine j_aload_n (i := 0) (x := 6) (q := 30) d_Act_add_29 rfl rfl rfl ?_
  refine j_get (v := .int (X4 6 2)) (q := 33) d_Act_add_30 fk_Act_21 fv_6_2 rfl ?_
  refine j_iconst (v := 1) (q := 34) d_Act_add_33 (by decide) rfl ?_
  refine j_iadd (q := 35) d_Act_add_34 rfl ?_
  refine j_mmin (S := [.ref 6]) (q := 38) d_Act_add_35 (gw_t 352 (by decide +kernel) (by decide +kernel)) ⟨Nat.le_of_ble_eq_true rfl, Nat.le_of_ble_eq_true rfl, Nat.le_refl 0, Nat.le_refl 0⟩ rfl ?_
  refine j_putI (q := 41) d_Act_add_38 fp_Act_21 fw_6_2 rfl (fun X5 => ?_)
  exact j_vret d_Act_add_41
def f_Act_takeBack (X : HI) (Y : HL) : Option Out :=
    (if (X 6 2) = 0 then
    (rI (-3 : Int32) X Y)
    else
    gd (nzb (14 : Int32)) (
    lh (up X 6 1 ((((X 6 1) + (14 : Int32)) - (1 : Int32)) - (((X 6 1) + (14 : Int32)) - (1 : Int32)) / (14 : Int32) * (14 : Int32))) (fun X1 =>
    gd (ixb (X1 6 1) 14) (
    bv (f_Pan_copy 16 (rA 7 (X1 6 1).toNatClampNeg) X1 Y) (fun X3 Y4 =>
    lh (up X3 6 2 ((X3 6 2) - (1 : Int32))) (fun X5 =>
    (rI (X5 6 2) X5 Y4)))))))
set_option maxRecDepth 4000 in
theorem c_Act_takeBack {K : KK} (hK : kOK K) (X : HI) (Y : HL) : CT K y_Act_takeBack prog_2_method_4_code 2 (some .int) rm_Act_takeBack [.ref 6, .ref 16] X Y (f_Act_takeBack X Y) := by
  refine ct_of hK (L := [some (.ref 6), some (.ref 16)]) (by decide) ⟨rfl, ⟨rfl, trivial⟩⟩ (Nat.le_of_ble_eq_true rfl) ?_
  unfold f_Act_takeBack
  refine j_aload_n (i := 0) (x := 6) (q := 1) d_Act_takeBack_0 rfl rfl rfl ?_
  refine j_get (v := .int (X 6 2)) (q := 4) d_Act_takeBack_1 fk_Act_21 fv_6_2 rfl ?_
  refine j_if_ne (t := 10) (q := 7) d_Act_takeBack_4 (by decide) rfl ?_ ?_
  · refine j_aload_n (i := 0) (x := 6) (q := 11) d_Act_takeBack_10 rfl rfl rfl ?_
    refine j_aload_n (i := 0) (x := 6) (q := 12) d_Act_takeBack_11 rfl rfl rfl ?_
    refine j_get (v := .int (X 6 1)) (q := 15) d_Act_takeBack_12 fk_Act_17 fv_6_1 rfl ?_
    refine j_bipush (v := 14) (q := 17) d_Act_takeBack_15 (by decide +kernel) rfl ?_
    refine j_iadd (q := 18) d_Act_takeBack_17 rfl ?_
    refine j_iconst (v := 1) (q := 19) d_Act_takeBack_18 (by decide) rfl ?_
    refine j_isub (q := 20) d_Act_takeBack_19 rfl ?_
    refine j_bipush (v := 14) (q := 22) d_Act_takeBack_20 (by decide +kernel) rfl ?_
    refine j_irem (q := 23) d_Act_takeBack_22 rfl ?_
    refine j_putI (q := 26) d_Act_takeBack_23 fp_Act_17 fw_6_1 rfl (fun X1 => ?_)
    refine j_aload_n (i := 1) (x := 16) (q := 27) d_Act_takeBack_26 rfl rfl rfl ?_
    refine j_aload_n (i := 0) (x := 6) (q := 28) d_Act_takeBack_27 rfl rfl rfl ?_
    refine j_get (v := .ref 7) (q := 31) d_Act_takeBack_28 fk_Act_11 fv_6_0 rfl ?_
    refine j_aload_n (i := 0) (x := 6) (q := 32) d_Act_takeBack_31 rfl rfl rfl ?_
    refine j_get (v := .int (X1 6 1)) (q := 35) d_Act_takeBack_32 fk_Act_17 fv_6_1 rfl ?_
    refine j_aald (q := 36) d_Act_takeBack_35 ar_7 rfl (fun hr2 => ?_)
    refine j_callVNv (a := 16) (S := []) (q := 39) [.ref (rA 7 (X1 6 1).toNatClampNeg)] d_Act_takeBack_36 mw_Pan_copy mv_Pan_copy ml_Act_27 (ob_P isP_16) rfl rfl (c_Pan_copy hK 16 (rA 7 (X1 6 1).toNatClampNeg) isP_16 (isP_r7 hr2) X1 Y) ⟨⟨rfl, rfl⟩, ⟨Nat.le_of_ble_eq_true rfl, Nat.le_of_ble_eq_true rfl⟩, ⟨Nat.le_refl 0, Nat.le_refl 0⟩⟩ (Nat.le_of_ble_eq_true rfl) rfl (fun X3 Y4 => ?_)
    refine j_aload_n (i := 0) (x := 6) (q := 40) d_Act_takeBack_39 rfl rfl rfl ?_
    refine j_dup (q := 41) d_Act_takeBack_40 rfl rfl ?_
    refine j_get (v := .int (X3 6 2)) (q := 44) d_Act_takeBack_41 fk_Act_21 fv_6_2 rfl ?_
    refine j_iconst (v := 1) (q := 45) d_Act_takeBack_44 (by decide) rfl ?_
    refine j_isub (q := 46) d_Act_takeBack_45 rfl ?_
    refine j_putI (q := 49) d_Act_takeBack_46 fp_Act_21 fw_6_2 rfl (fun X5 => ?_)
    refine j_aload_n (i := 0) (x := 6) (q := 50) d_Act_takeBack_49 rfl rfl rfl ?_
    refine j_get (v := .int (X5 6 2)) (q := 53) d_Act_takeBack_50 fk_Act_21 fv_6_2 rfl ?_
    exact j_iret d_Act_takeBack_53
  · refine j_bipush (v := -3) (q := 9) d_Act_takeBack_7 (by decide +kernel) rfl ?_
    exact j_iret d_Act_takeBack_9
def b_Fin_add_50 (s0 : Int32) (s1 : Int32) (X : HI) (Y : HL) : Option Out :=
    wr (ixb s1 6) (up X 11 s1.toNatClampNeg (vp_nar .boolean s0)) (fun X3 =>
    lh (up X3 8 3 ((X3 8 3) + (1 : Int32))) (fun X4 =>
    (rI (X4 8 3) X4 Y)))
def f_Fin_add (x1 : Int32) (x2 : Int32) (x3 : Int32) (X : HI) (Y : HL) : Option Out :=
    (if (X 8 3) < (6 : Int32) then
    wr (ixb (X 8 3) 6) (up X 9 (X 8 3).toNatClampNeg x1) (fun X1 =>
    wr (ixb (X1 8 3) 6) (up X1 10 (X1 8 3).toNatClampNeg x2) (fun X2 =>
    (if x3 = (1 : Int32) then
    (b_Fin_add_50 (1 : Int32) (X2 8 3) X2 Y)
    else
    (b_Fin_add_50 (0 : Int32) (X2 8 3) X2 Y))))
    else
    (rI (-4 : Int32) X Y))
set_option maxRecDepth 4000 in
theorem jb_Fin_add_50 {K : KK} (hK : kOK K) (s0 : Int32) (s1 : Int32) (X : HI) (Y : HL) : JO K "BrinePans$Finds" prog_3_method_2_code 4 (some .int) rm_Fin_add 0 0 (MZ K) 50 [some (.ref 8), none, none, none] [.int s0, .int s1, .ref 11] X Y (b_Fin_add_50 s0 s1 X Y) := by
  unfold b_Fin_add_50
  refine j_zast (q := 51) d_Fin_add_50 az_11 rfl (fun X3 => ?_)
  refine j_aload_n (i := 0) (x := 8) (q := 52) d_Fin_add_51 rfl rfl rfl ?_
  refine j_dup (q := 53) d_Fin_add_52 rfl rfl ?_
  refine j_get (v := .int (X3 8 3)) (q := 56) d_Fin_add_53 fk_Fin_22 fv_8_3 rfl ?_
  refine j_iconst (v := 1) (q := 57) d_Fin_add_56 (by decide) rfl ?_
  refine j_iadd (q := 58) d_Fin_add_57 rfl ?_
  refine j_putI (q := 61) d_Fin_add_58 fp_Fin_22 fw_8_3 rfl (fun X4 => ?_)
  refine j_aload_n (i := 0) (x := 8) (q := 62) d_Fin_add_61 rfl rfl rfl ?_
  refine j_get (v := .int (X4 8 3)) (q := 65) d_Fin_add_62 fk_Fin_22 fv_8_3 rfl ?_
  exact j_iret d_Fin_add_65
set_option maxRecDepth 4000 in
theorem c_Fin_add {K : KK} (hK : kOK K) (x1 : Int32) (x2 : Int32) (x3 : Int32) (X : HI) (Y : HL) : CT K y_Fin_add prog_3_method_2_code 4 (some .int) rm_Fin_add [.ref 8, .int x1, .int x2, .int x3] X Y (f_Fin_add x1 x2 x3 X Y) := by
  refine ct_of hK (L := [some (.ref 8), some (.int x1), some (.int x2), some (.int x3)]) (by decide) ⟨rfl, ⟨rfl, ⟨rfl, ⟨rfl, trivial⟩⟩⟩⟩ (Nat.le_of_ble_eq_true rfl) ?_
  unfold f_Fin_add
  refine j_aload_n (i := 0) (x := 8) (q := 1) d_Fin_add_0 rfl rfl rfl ?_
  refine j_get (v := .int (X 8 3)) (q := 4) d_Fin_add_1 fk_Fin_22 fv_8_3 rfl ?_
  refine j_bipush (v := 6) (q := 6) d_Fin_add_4 (by decide +kernel) rfl ?_
  refine j_icmp_lt (t := 12) (q := 9) d_Fin_add_6 (by decide) rfl ?_ ?_
  · refine j_aload_n (i := 0) (x := 8) (q := 13) d_Fin_add_12 rfl rfl rfl ?_
    refine j_get (v := .ref 9) (q := 16) d_Fin_add_13 fk_Fin_9 fv_8_0 rfl ?_
    refine j_aload_n (i := 0) (x := 8) (q := 17) d_Fin_add_16 rfl rfl rfl ?_
    refine j_get (v := .int (X 8 3)) (q := 20) d_Fin_add_17 fk_Fin_22 fv_8_3 rfl ?_
    refine j_iload_n (i := 1) (x := x1) (q := 21) d_Fin_add_20 rfl rfl rfl ?_
    refine j_iast (q := 22) d_Fin_add_21 ai_9 rfl (fun X1 => ?_)
    refine j_aload_n (i := 0) (x := 8) (q := 23) d_Fin_add_22 rfl rfl rfl ?_
    refine j_get (v := .ref 10) (q := 26) d_Fin_add_23 fk_Fin_15 fv_8_1 rfl ?_
    refine j_aload_n (i := 0) (x := 8) (q := 27) d_Fin_add_26 rfl rfl rfl ?_
    refine j_get (v := .int (X1 8 3)) (q := 30) d_Fin_add_27 fk_Fin_22 fv_8_3 rfl ?_
    refine j_iload_n (i := 2) (x := x2) (q := 31) d_Fin_add_30 rfl rfl rfl ?_
    refine j_iast (q := 32) d_Fin_add_31 ai_10 rfl (fun X2 => ?_)
    refine j_aload_n (i := 0) (x := 8) (q := 33) d_Fin_add_32 rfl rfl rfl ?_
    refine j_get (v := .ref 11) (q := 36) d_Fin_add_33 fk_Fin_18 fv_8_2 rfl ?_
    refine j_aload_n (i := 0) (x := 8) (q := 37) d_Fin_add_36 rfl rfl rfl ?_
    refine j_get (v := .int (X2 8 3)) (q := 40) d_Fin_add_37 fk_Fin_22 fv_8_3 rfl ?_
    refine j_iload_n (i := 3) (x := x3) (q := 41) d_Fin_add_40 rfl rfl rfl ?_
    refine j_iconst (v := 1) (q := 42) d_Fin_add_41 (by decide) rfl ?_
    refine j_icmp_ne (t := 49) (q := 45) d_Fin_add_42 (by decide) rfl ?_ ?_
    · refine j_iconst (v := 0) (q := 50) d_Fin_add_49 (by decide) rfl ?_
      refine j_sub (L' := [some (.ref 8), none, none, none]) ⟨rfl, trivial⟩ ?_
      exact jb_Fin_add_50 hK (0 : Int32) (X2 8 3) X2 Y
    · refine j_iconst (v := 1) (q := 46) d_Fin_add_45 (by decide) rfl ?_
      refine j_goto (q := 50) d_Fin_add_46 (by decide) ?_
      refine j_sub (L' := [some (.ref 8), none, none, none]) ⟨rfl, trivial⟩ ?_
      exact jb_Fin_add_50 hK (1 : Int32) (X2 8 3) X2 Y
  · refine j_bipush (v := -4) (q := 11) d_Fin_add_9 (by decide +kernel) rfl ?_
    exact j_iret d_Fin_add_11
def f_Fin_clear (X : HI) (Y : HL) : Option Out :=
    lt (X 8 3) (fun v1 =>
    lh (up X 8 3 (0 : Int32)) (fun X2 =>
    (rI v1 X2 Y)))
set_option maxRecDepth 4000 in
theorem c_Fin_clear {K : KK} (hK : kOK K) (X : HI) (Y : HL) : CT K y_Fin_clear prog_3_method_3_code 2 (some .int) rm_Fin_clear [.ref 8] X Y (f_Fin_clear X Y) := by
  refine ct_of hK (L := [some (.ref 8), none]) (by decide) ⟨rfl, trivial⟩ (Nat.le_of_ble_eq_true rfl) ?_
  unfold f_Fin_clear
  refine j_aload_n (i := 0) (x := 8) (q := 1) d_Fin_clear_0 rfl rfl rfl ?_
  refine j_get (v := .int (X 8 3)) (q := 4) d_Fin_clear_1 fk_Fin_22 fv_8_3 rfl ?_
  refine j_lt (fun v1 => ?_)
  refine j_istore_n (i := 1) (L' := [some (.ref 8), some (.int v1)]) (q := 5) d_Fin_clear_4 rfl (by decide) rfl rfl rfl ?_
  refine j_aload_n (i := 0) (x := 8) (q := 6) d_Fin_clear_5 rfl rfl rfl ?_
  refine j_iconst (v := 0) (q := 7) d_Fin_clear_6 (by decide) rfl ?_
  refine j_putI (q := 10) d_Fin_clear_7 fp_Fin_22 fw_8_3 rfl (fun X2 => ?_)
  refine j_iload_n (i := 1) (x := v1) (q := 11) d_Fin_clear_10 rfl rfl rfl ?_
  exact j_iret d_Fin_clear_11
def b_Fin_allow_41 (kc : Int32 → HI → HL → Option Out) (kx : Int32 → HI → HL → Option Out) (x1 : Int32) (x2 : Int32) (s0 : Int32) (X : HI) (Y : HL) : Option Out :=
    gd (ixb x2 6) (
    (if s0 = (X 11 x2.toNatClampNeg) then
    (kc (x2 + (1 : Int32)) X Y)
    else
    (rI (0 : Int32) X Y)))
def l_Fin_allow_2 (x1 : Int32) (kx : Int32 → HI → HL → Option Out) : Nat → Int32 → HI → HL → Option Out
  | 0, _, _, _ => none
  | n + 1, m2, X, Y =>
    (if (X 8 3) ≤ m2 then
    (kx m2 X Y)
    else
    gd (ixb m2 6) (
    lt (x1 - (if ((8 : Int32) * (X 9 m2.toNatClampNeg)) < x1 then ((8 : Int32) * (X 9 m2.toNatClampNeg)) else x1)) (fun v1 =>
    gd (ixb m2 6) (
    (if v1 < (X 10 m2.toNatClampNeg) then
    (b_Fin_allow_41 (fun a2 A B => l_Fin_allow_2 x1 kx n a2 A B) kx x1 m2 (0 : Int32) X Y)
    else
    (b_Fin_allow_41 (fun a2 A B => l_Fin_allow_2 x1 kx n a2 A B) kx x1 m2 (1 : Int32) X Y))))))
def f_Fin_allow (x1 : Int32) (X : HI) (Y : HL) : Option Out :=
    (l_Fin_allow_2 x1 (fun w2 X3 Y4 =>
    (rI (1 : Int32) X3 Y4)) 256 (0 : Int32) X Y)
set_option maxRecDepth 4000 in
theorem jb_Fin_allow_41 {K : KK} (hK : kOK K) (kc : Int32 → HI → HL → Option Out) (kx : Int32 → HI → HL → Option Out) (x1 : Int32) (x2 : Int32) (s0 : Int32) (hkc : ∀ (m2 : Int32) (X : HI) (Y : HL), JO K "BrinePans$Finds" prog_3_method_4_code 4 (some .boolean) rm_Fin_allow 0 0 (MZ K) 2 [some (.ref 8), some (.int x1), some (.int m2), none] [] X Y (kc m2 X Y)) (hkx : ∀ (m2 : Int32) (X : HI) (Y : HL), JO K "BrinePans$Finds" prog_3_method_4_code 4 (some .boolean) rm_Fin_allow 0 0 (MZ K) 58 [none, none, none, none] [] X Y (kx m2 X Y)) (X : HI) (Y : HL) : JO K "BrinePans$Finds" prog_3_method_4_code 4 (some .boolean) rm_Fin_allow 0 0 (MZ K) 41 [some (.ref 8), some (.int x1), some (.int x2), none] [.int s0] X Y (b_Fin_allow_41 kc kx x1 x2 s0 X Y) := by
  unfold b_Fin_allow_41
  refine j_aload_n (i := 0) (x := 8) (q := 42) d_Fin_allow_41 rfl rfl rfl ?_
  refine j_get (v := .ref 11) (q := 45) d_Fin_allow_42 fk_Fin_18 fv_8_2 rfl ?_
  refine j_iload_n (i := 2) (x := x2) (q := 46) d_Fin_allow_45 rfl rfl rfl ?_
  refine j_zald (q := 47) d_Fin_allow_46 az_11 rfl ?_
  refine j_icmp_eq (t := 52) (q := 50) d_Fin_allow_47 (by decide) rfl ?_ ?_
  · refine j_iinc (i := 2) (x := x2) (d := 1) (L' := [some (.ref 8), some (.int x1), some (.int (x2 + (1 : Int32))), none]) (q := 55) d_Fin_allow_52 rfl (by decide) (by decide) rfl rfl rfl ?_
    refine j_goto (q := 2) d_Fin_allow_55 (by decide) ?_
    refine j_sub (L' := [some (.ref 8), some (.int x1), some (.int (x2 + (1 : Int32))), none]) ⟨rfl, ⟨rfl, ⟨rfl, trivial⟩⟩⟩ ?_
    exact hkc (x2 + (1 : Int32)) X Y
  · refine j_iconst (v := 0) (q := 51) d_Fin_allow_50 (by decide) rfl ?_
    exact j_zret d_Fin_allow_51 (by decide)
set_option maxRecDepth 4000 in
theorem jl_Fin_allow_2 {K : KK} (hK : kOK K) (x1 : Int32) (kx : Int32 → HI → HL → Option Out) (hkx : ∀ (m2 : Int32) (X : HI) (Y : HL), JO K "BrinePans$Finds" prog_3_method_4_code 4 (some .boolean) rm_Fin_allow 0 0 (MZ K) 58 [none, none, none, none] [] X Y (kx m2 X Y)) : ∀ (n : Nat) (m2 : Int32) (X : HI) (Y : HL), JO K "BrinePans$Finds" prog_3_method_4_code 4 (some .boolean) rm_Fin_allow 0 0 (MZ K) 2 [some (.ref 8), some (.int x1), some (.int m2), none] [] X Y (l_Fin_allow_2 x1 kx n m2 X Y) := by
  intro n
  induction n with
  | zero =>
    intro m2 X Y
    rw [l_Fin_allow_2]
    exact j_none
  | succ n ih =>
    intro m2 X Y
    rw [l_Fin_allow_2]
    refine j_iload_n (i := 2) (x := m2) (q := 3) d_Fin_allow_2 rfl rfl rfl ?_
    refine j_aload_n (i := 0) (x := 8) (q := 4) d_Fin_allow_3 rfl rfl rfl ?_
    refine j_get (v := .int (X 8 3)) (q := 7) d_Fin_allow_4 fk_Fin_22 fv_8_3 rfl ?_
    refine j_icmp_ge (t := 58) (q := 10) d_Fin_allow_7 (by decide) rfl ?_ ?_
    · refine j_sub (L' := [none, none, none, none]) trivial ?_
      exact hkx m2 X Y
    · refine j_iload_n (i := 1) (x := x1) (q := 11) d_Fin_allow_10 rfl rfl rfl ?_
      refine j_iload_n (i := 1) (x := x1) (q := 12) d_Fin_allow_11 rfl rfl rfl ?_
      refine j_bipush (v := 8) (q := 14) d_Fin_allow_12 (by decide +kernel) rfl ?_
      refine j_aload_n (i := 0) (x := 8) (q := 15) d_Fin_allow_14 rfl rfl rfl ?_
      refine j_get (v := .ref 9) (q := 18) d_Fin_allow_15 fk_Fin_9 fv_8_0 rfl ?_
      refine j_iload_n (i := 2) (x := m2) (q := 19) d_Fin_allow_18 rfl rfl rfl ?_
      refine j_iald (q := 20) d_Fin_allow_19 ai_9 rfl ?_
      refine j_imul (q := 21) d_Fin_allow_20 rfl ?_
      refine j_mmin (S := [.int x1]) (q := 24) d_Fin_allow_21 (gw_t 492 (by decide +kernel) (by decide +kernel)) ⟨Nat.le_of_ble_eq_true rfl, Nat.le_of_ble_eq_true rfl, Nat.le_refl 0, Nat.le_refl 0⟩ rfl ?_
      refine j_isub (q := 25) d_Fin_allow_24 rfl ?_
      refine j_lt (fun v1 => ?_)
      refine j_istore_n (i := 3) (L' := [some (.ref 8), some (.int x1), some (.int m2), some (.int v1)]) (q := 26) d_Fin_allow_25 rfl (by decide) rfl rfl rfl ?_
      refine j_iload_n (i := 3) (x := v1) (q := 27) d_Fin_allow_26 rfl rfl rfl ?_
      refine j_aload_n (i := 0) (x := 8) (q := 28) d_Fin_allow_27 rfl rfl rfl ?_
      refine j_get (v := .ref 10) (q := 31) d_Fin_allow_28 fk_Fin_15 fv_8_1 rfl ?_
      refine j_iload_n (i := 2) (x := m2) (q := 32) d_Fin_allow_31 rfl rfl rfl ?_
      refine j_iald (q := 33) d_Fin_allow_32 ai_10 rfl ?_
      refine j_icmp_lt (t := 40) (q := 36) d_Fin_allow_33 (by decide) rfl ?_ ?_
      · refine j_iconst (v := 0) (q := 41) d_Fin_allow_40 (by decide) rfl ?_
        refine j_sub (L' := [some (.ref 8), some (.int x1), some (.int m2), none]) ⟨rfl, ⟨rfl, ⟨rfl, trivial⟩⟩⟩ ?_
        exact jb_Fin_allow_41 hK (fun a2 A B => l_Fin_allow_2 x1 kx n a2 A B) kx x1 m2 (0 : Int32) ih hkx X Y
      · refine j_iconst (v := 1) (q := 37) d_Fin_allow_36 (by decide) rfl ?_
        refine j_goto (q := 41) d_Fin_allow_37 (by decide) ?_
        refine j_sub (L' := [some (.ref 8), some (.int x1), some (.int m2), none]) ⟨rfl, ⟨rfl, ⟨rfl, trivial⟩⟩⟩ ?_
        exact jb_Fin_allow_41 hK (fun a2 A B => l_Fin_allow_2 x1 kx n a2 A B) kx x1 m2 (1 : Int32) ih hkx X Y
set_option maxRecDepth 4000 in
theorem c_Fin_allow {K : KK} (hK : kOK K) (x1 : Int32) (X : HI) (Y : HL) : CT K y_Fin_allow prog_3_method_4_code 4 (some .boolean) rm_Fin_allow [.ref 8, .int x1] X Y (f_Fin_allow x1 X Y) := by
  refine ct_of hK (L := [some (.ref 8), some (.int x1), none, none]) (by decide) ⟨rfl, ⟨rfl, trivial⟩⟩ (Nat.le_of_ble_eq_true rfl) ?_
  unfold f_Fin_allow
  refine j_iconst (v := 0) (q := 1) d_Fin_allow_0 (by decide) rfl ?_
  refine j_istore_n (i := 2) (L' := [some (.ref 8), some (.int x1), some (.int (0 : Int32)), none]) (q := 2) d_Fin_allow_1 rfl (by decide) rfl rfl rfl ?_
  refine j_sub (L' := [some (.ref 8), some (.int x1), some (.int (0 : Int32)), none]) ⟨rfl, ⟨rfl, ⟨rfl, trivial⟩⟩⟩ ?_
  refine jl_Fin_allow_2 hK x1 _ (fun w2 X3 Y4 => ?_) 256 (0 : Int32) X Y
  refine j_iconst (v := 1) (q := 59) d_Fin_allow_58 (by decide) rfl ?_
  exact j_zret d_Fin_allow_59 (by decide)
def f_Txt_append (x1 : Int32) (X : HI) (Y : HL) : Option Out :=
    (if (X 1 1) < (36 : Int32) then
    wr (ixb (X 1 1) 36) (up X 2 (X 1 1).toNatClampNeg x1) (fun X1 =>
    lh (up X1 1 1 ((X1 1 1) + (1 : Int32))) (fun X2 =>
    (rI (X2 1 1) X2 Y)))
    else
    (rI (-4 : Int32) X Y))
set_option maxRecDepth 4000 in
theorem c_Txt_append {K : KK} (hK : kOK K) (x1 : Int32) (X : HI) (Y : HL) : CT K y_Txt_append prog_6_method_2_code 2 (some .int) rm_Txt_append [.ref 1, .int x1] X Y (f_Txt_append x1 X Y) := by
  refine ct_of hK (L := [some (.ref 1), some (.int x1)]) (by decide) ⟨rfl, ⟨rfl, trivial⟩⟩ (Nat.le_of_ble_eq_true rfl) ?_
  unfold f_Txt_append
  refine j_aload_n (i := 0) (x := 1) (q := 1) d_Txt_append_0 rfl rfl rfl ?_
  refine j_get (v := .int (X 1 1)) (q := 4) d_Txt_append_1 fk_Txt_15 fv_1_1 rfl ?_
  refine j_bipush (v := 36) (q := 6) d_Txt_append_4 (by decide +kernel) rfl ?_
  refine j_icmp_lt (t := 12) (q := 9) d_Txt_append_6 (by decide) rfl ?_ ?_
  · refine j_aload_n (i := 0) (x := 1) (q := 13) d_Txt_append_12 rfl rfl rfl ?_
    refine j_get (v := .ref 2) (q := 16) d_Txt_append_13 fk_Txt_9 fv_1_0 rfl ?_
    refine j_aload_n (i := 0) (x := 1) (q := 17) d_Txt_append_16 rfl rfl rfl ?_
    refine j_get (v := .int (X 1 1)) (q := 20) d_Txt_append_17 fk_Txt_15 fv_1_1 rfl ?_
    refine j_iload_n (i := 1) (x := x1) (q := 21) d_Txt_append_20 rfl rfl rfl ?_
    refine j_iast (q := 22) d_Txt_append_21 ai_2 rfl (fun X1 => ?_)
    refine j_aload_n (i := 0) (x := 1) (q := 23) d_Txt_append_22 rfl rfl rfl ?_
    refine j_dup (q := 24) d_Txt_append_23 rfl rfl ?_
    refine j_get (v := .int (X1 1 1)) (q := 27) d_Txt_append_24 fk_Txt_15 fv_1_1 rfl ?_
    refine j_iconst (v := 1) (q := 28) d_Txt_append_27 (by decide) rfl ?_
    refine j_iadd (q := 29) d_Txt_append_28 rfl ?_
    refine j_putI (q := 32) d_Txt_append_29 fp_Txt_15 fw_1_1 rfl (fun X2 => ?_)
    refine j_aload_n (i := 0) (x := 1) (q := 33) d_Txt_append_32 rfl rfl rfl ?_
    refine j_get (v := .int (X2 1 1)) (q := 36) d_Txt_append_33 fk_Txt_15 fv_1_1 rfl ?_
    exact j_iret d_Txt_append_36
  · refine j_bipush (v := -4) (q := 11) d_Txt_append_9 (by decide +kernel) rfl ?_
    exact j_iret d_Txt_append_11
def f_Txt_clear (X : HI) (Y : HL) : Option Out :=
    lt (X 1 1) (fun v1 =>
    lh (up X 1 1 (0 : Int32)) (fun X2 =>
    (rI v1 X2 Y)))
set_option maxRecDepth 4000 in
theorem c_Txt_clear {K : KK} (hK : kOK K) (X : HI) (Y : HL) : CT K y_Txt_clear prog_6_method_3_code 2 (some .int) rm_Txt_clear [.ref 1] X Y (f_Txt_clear X Y) := by
  refine ct_of hK (L := [some (.ref 1), none]) (by decide) ⟨rfl, trivial⟩ (Nat.le_of_ble_eq_true rfl) ?_
  unfold f_Txt_clear
  refine j_aload_n (i := 0) (x := 1) (q := 1) d_Txt_clear_0 rfl rfl rfl ?_
  refine j_get (v := .int (X 1 1)) (q := 4) d_Txt_clear_1 fk_Txt_15 fv_1_1 rfl ?_
  refine j_lt (fun v1 => ?_)
  refine j_istore_n (i := 1) (L' := [some (.ref 1), some (.int v1)]) (q := 5) d_Txt_clear_4 rfl (by decide) rfl rfl rfl ?_
  refine j_aload_n (i := 0) (x := 1) (q := 6) d_Txt_clear_5 rfl rfl rfl ?_
  refine j_iconst (v := 0) (q := 7) d_Txt_clear_6 (by decide) rfl ?_
  refine j_putI (q := 10) d_Txt_clear_7 fp_Txt_15 fw_1_1 rfl (fun X2 => ?_)
  refine j_iload_n (i := 1) (x := v1) (q := 11) d_Txt_clear_10 rfl rfl rfl ?_
  exact j_iret d_Txt_clear_11
def f_Txt_stepIntoThing (x0 : Int32) (X : HI) (Y : HL) : Option Out :=
    (if x0 = (78 : Int32) then
    (rI (2 : Int32) X Y)
    else
    (if x0 = (82 : Int32) then
    (rI (6 : Int32) X Y)
    else
    (if x0 = (83 : Int32) then
    (rI (5 : Int32) X Y)
    else
    (rI (7 : Int32) X Y))))
set_option maxRecDepth 4000 in
theorem c_Txt_stepIntoThing {K : KK} (hK : kOK K) (x0 : Int32) (X : HI) (Y : HL) : CT K y_Txt_stepIntoThing prog_6_method_6_code 1 (some .int) rm_Txt_stepIntoThing [.int x0] X Y (f_Txt_stepIntoThing x0 X Y) := by
  refine ct_of hK (L := [some (.int x0)]) (by decide) ⟨rfl, trivial⟩ (Nat.le_of_ble_eq_true rfl) ?_
  unfold f_Txt_stepIntoThing
  refine j_iload_n (i := 0) (x := x0) (q := 1) d_Txt_stepIntoThing_0 rfl rfl rfl ?_
  refine j_ite (fun z1_0 => ?_) (fun z1_0 => ?_)
  · refine j_look (t := 36) (off := 35) d_Txt_stepIntoThing_1 (by decide) (by rw [z1_0]; decide) (by decide) ?_
    refine j_iconst (v := 2) (q := 37) d_Txt_stepIntoThing_36 (by decide) rfl ?_
    exact j_iret d_Txt_stepIntoThing_37
  · skip
    refine j_ite (fun z1_1 => ?_) (fun z1_1 => ?_)
    · refine j_look (t := 40) (off := 39) d_Txt_stepIntoThing_1 (by decide) (by rw [z1_1]; decide) (by decide) ?_
      refine j_bipush (v := 6) (q := 42) d_Txt_stepIntoThing_40 (by decide +kernel) rfl ?_
      exact j_iret d_Txt_stepIntoThing_42
    · skip
      refine j_ite (fun z1_2 => ?_) (fun z1_2 => ?_)
      · refine j_look (t := 38) (off := 37) d_Txt_stepIntoThing_1 (by decide) (by rw [z1_2]; decide) (by decide) ?_
        refine j_iconst (v := 5) (q := 39) d_Txt_stepIntoThing_38 (by decide) rfl ?_
        exact j_iret d_Txt_stepIntoThing_39
      · skip
        refine j_look (t := 43) (off := 42) d_Txt_stepIntoThing_1 (by decide) (by have e78 := ne_toInt z1_0; have e82 := ne_toInt z1_1; have e83 := ne_toInt z1_2; rw [show ((78 : Int32)).toInt = 78 from by decide] at e78; rw [show ((82 : Int32)).toInt = 82 from by decide] at e82; rw [show ((83 : Int32)).toInt = 83 from by decide] at e83; exact look_out e78 e82 e83) (by decide) ?_
        refine j_bipush (v := 7) (q := 45) d_Txt_stepIntoThing_43 (by decide +kernel) rfl ?_
        exact j_iret d_Txt_stepIntoThing_45
def f_Txt_stepBehind (x0 : Int32) (x1 : Int32) (X : HI) (Y : HL) : Option Out :=
    (if x0 = (0 : Int32) then
    (if x1 = (77 : Int32) then
    (rI (1 : Int32) X Y)
    else
    (rI (7 : Int32) X Y))
    else
    (if x0 = (1 : Int32) then
    bi (f_Txt_stepIntoThing x1 X Y) (fun r3 X1 Y2 =>
    (rI r3 X1 Y2))
    else
    (if x0 = (2 : Int32) then
    bi (f_Bri_isFromTo x1 (48 : Int32) (51 : Int32) X Y) (fun r6 X4 Y5 =>
    (if r6 = 0 then
    (rI (7 : Int32) X4 Y5)
    else
    (rI (3 : Int32) X4 Y5)))
    else
    (if x0 = (3 : Int32) then
    bi (f_Bri_isFromTo x1 (48 : Int32) (54 : Int32) X Y) (fun r9 X7 Y8 =>
    (if r9 = 0 then
    (rI (7 : Int32) X7 Y8)
    else
    (rI (4 : Int32) X7 Y8)))
    else
    (if x0 = (4 : Int32) then
    bi (f_Bri_isFromTo x1 (48 : Int32) (57 : Int32) X Y) (fun r12 X10 Y11 =>
    (if r12 = 0 then
    (rI (7 : Int32) X10 Y11)
    else
    (rI (1 : Int32) X10 Y11)))
    else
    (if x0 = (5 : Int32) then
    bi (f_Bri_isFromTo x1 (48 : Int32) (52 : Int32) X Y) (fun r15 X13 Y14 =>
    (if r15 = 0 then
    (rI (7 : Int32) X13 Y14)
    else
    (rI (1 : Int32) X13 Y14)))
    else
    (if x0 = (6 : Int32) then
    bi (f_Bri_isFromTo x1 (49 : Int32) (52 : Int32) X Y) (fun r18 X16 Y17 =>
    (if r18 = 0 then
    (rI (7 : Int32) X16 Y17)
    else
    (rI (1 : Int32) X16 Y17)))
    else
    (rI (7 : Int32) X Y))))))))
set_option maxRecDepth 4000 in
theorem c_Txt_stepBehind {K : KK} (hK : kOK K) (x0 : Int32) (x1 : Int32) (X : HI) (Y : HL) : CT K y_Txt_stepBehind prog_6_method_5_code 2 (some .int) rm_Txt_stepBehind [.int x0, .int x1] X Y (f_Txt_stepBehind x0 x1 X Y) := by
  refine ct_of hK (L := [some (.int x0), some (.int x1)]) (by decide) ⟨rfl, ⟨rfl, trivial⟩⟩ (Nat.le_of_ble_eq_true rfl) ?_
  unfold f_Txt_stepBehind
  refine j_iload_n (i := 0) (x := x0) (q := 1) d_Txt_stepBehind_0 rfl rfl rfl ?_
  refine j_ite (fun z1_0 => ?_) (fun z1_0 => ?_)
  · refine j_tabIn (z := 0) (t := 44) (off := 43) d_Txt_stepBehind_1 z1_0 (by decide) (by decide) (by decide) (by decide) ?_
    refine j_iload_n (i := 1) (x := x1) (q := 45) d_Txt_stepBehind_44 rfl rfl rfl ?_
    refine j_bipush (v := 77) (q := 47) d_Txt_stepBehind_45 (by decide +kernel) rfl ?_
    refine j_icmp_ne (t := 54) (q := 50) d_Txt_stepBehind_47 (by decide) rfl ?_ ?_
    · refine j_bipush (v := 7) (q := 56) d_Txt_stepBehind_54 (by decide +kernel) rfl ?_
      exact j_iret d_Txt_stepBehind_56
    · refine j_iconst (v := 1) (q := 51) d_Txt_stepBehind_50 (by decide) rfl ?_
      refine j_goto (q := 56) d_Txt_stepBehind_51 (by decide) ?_
      exact j_iret d_Txt_stepBehind_56
  · skip
    refine j_ite (fun z1_1 => ?_) (fun z1_1 => ?_)
    · refine j_tabIn (z := 1) (t := 57) (off := 56) d_Txt_stepBehind_1 z1_1 (by decide) (by decide) (by decide) (by decide) ?_
      refine j_iload_n (i := 1) (x := x1) (q := 58) d_Txt_stepBehind_57 rfl rfl rfl ?_
      refine j_callSi (S := []) (q := 61) [.int x1] d_Txt_stepBehind_58 mw_Txt_stepIntoThing ms_Txt_stepIntoThing ml_Txt_23 rfl rfl (c_Txt_stepIntoThing hK x1 X Y) ⟨⟨rfl, rfl⟩, ⟨Nat.le_of_ble_eq_true rfl, Nat.le_of_ble_eq_true rfl⟩, ⟨Nat.le_refl 0, Nat.le_refl 0⟩⟩ (Nat.le_of_ble_eq_true rfl) rfl (fun r3 X1 Y2 => ?_)
      exact j_iret d_Txt_stepBehind_61
    · skip
      refine j_ite (fun z1_2 => ?_) (fun z1_2 => ?_)
      · refine j_tabIn (z := 2) (t := 62) (off := 61) d_Txt_stepBehind_1 z1_2 (by decide) (by decide) (by decide) (by decide) ?_
        refine j_iload_n (i := 1) (x := x1) (q := 63) d_Txt_stepBehind_62 rfl rfl rfl ?_
        refine j_bipush (v := 48) (q := 65) d_Txt_stepBehind_63 (by decide +kernel) rfl ?_
        refine j_bipush (v := 51) (q := 67) d_Txt_stepBehind_65 (by decide +kernel) rfl ?_
        refine j_callSNi (S := []) (q := 70) [.int x1, .int (48 : Int32), .int (51 : Int32)] d_Txt_stepBehind_67 mw_Bri_isFromTo ms_Bri_isFromTo ml_Txt_27 rfl rfl (c_Bri_isFromTo hK x1 (48 : Int32) (51 : Int32) X Y) ⟨⟨rfl, rfl⟩, ⟨Nat.le_of_ble_eq_true rfl, Nat.le_of_ble_eq_true rfl⟩, ⟨Nat.le_refl 0, Nat.le_refl 0⟩⟩ (Nat.le_of_ble_eq_true rfl) rfl (fun r6 X4 Y5 => ?_)
        refine j_if_eq (t := 77) (q := 73) d_Txt_stepBehind_70 (by decide) rfl ?_ ?_
        · refine j_bipush (v := 7) (q := 79) d_Txt_stepBehind_77 (by decide +kernel) rfl ?_
          exact j_iret d_Txt_stepBehind_79
        · refine j_iconst (v := 3) (q := 74) d_Txt_stepBehind_73 (by decide) rfl ?_
          refine j_goto (q := 79) d_Txt_stepBehind_74 (by decide) ?_
          exact j_iret d_Txt_stepBehind_79
      · skip
        refine j_ite (fun z1_3 => ?_) (fun z1_3 => ?_)
        · refine j_tabIn (z := 3) (t := 80) (off := 79) d_Txt_stepBehind_1 z1_3 (by decide) (by decide) (by decide) (by decide) ?_
          refine j_iload_n (i := 1) (x := x1) (q := 81) d_Txt_stepBehind_80 rfl rfl rfl ?_
          refine j_bipush (v := 48) (q := 83) d_Txt_stepBehind_81 (by decide +kernel) rfl ?_
          refine j_bipush (v := 54) (q := 85) d_Txt_stepBehind_83 (by decide +kernel) rfl ?_
          refine j_callSNi (S := []) (q := 88) [.int x1, .int (48 : Int32), .int (54 : Int32)] d_Txt_stepBehind_85 mw_Bri_isFromTo ms_Bri_isFromTo ml_Txt_27 rfl rfl (c_Bri_isFromTo hK x1 (48 : Int32) (54 : Int32) X Y) ⟨⟨rfl, rfl⟩, ⟨Nat.le_of_ble_eq_true rfl, Nat.le_of_ble_eq_true rfl⟩, ⟨Nat.le_refl 0, Nat.le_refl 0⟩⟩ (Nat.le_of_ble_eq_true rfl) rfl (fun r9 X7 Y8 => ?_)
          refine j_if_eq (t := 95) (q := 91) d_Txt_stepBehind_88 (by decide) rfl ?_ ?_
          · refine j_bipush (v := 7) (q := 97) d_Txt_stepBehind_95 (by decide +kernel) rfl ?_
            exact j_iret d_Txt_stepBehind_97
          · refine j_iconst (v := 4) (q := 92) d_Txt_stepBehind_91 (by decide) rfl ?_
            refine j_goto (q := 97) d_Txt_stepBehind_92 (by decide) ?_
            exact j_iret d_Txt_stepBehind_97
        · skip
          refine j_ite (fun z1_4 => ?_) (fun z1_4 => ?_)
          · refine j_tabIn (z := 4) (t := 98) (off := 97) d_Txt_stepBehind_1 z1_4 (by decide) (by decide) (by decide) (by decide) ?_
            refine j_iload_n (i := 1) (x := x1) (q := 99) d_Txt_stepBehind_98 rfl rfl rfl ?_
            refine j_bipush (v := 48) (q := 101) d_Txt_stepBehind_99 (by decide +kernel) rfl ?_
            refine j_bipush (v := 57) (q := 103) d_Txt_stepBehind_101 (by decide +kernel) rfl ?_
            refine j_callSNi (S := []) (q := 106) [.int x1, .int (48 : Int32), .int (57 : Int32)] d_Txt_stepBehind_103 mw_Bri_isFromTo ms_Bri_isFromTo ml_Txt_27 rfl rfl (c_Bri_isFromTo hK x1 (48 : Int32) (57 : Int32) X Y) ⟨⟨rfl, rfl⟩, ⟨Nat.le_of_ble_eq_true rfl, Nat.le_of_ble_eq_true rfl⟩, ⟨Nat.le_refl 0, Nat.le_refl 0⟩⟩ (Nat.le_of_ble_eq_true rfl) rfl (fun r12 X10 Y11 => ?_)
            refine j_if_eq (t := 113) (q := 109) d_Txt_stepBehind_106 (by decide) rfl ?_ ?_
            · refine j_bipush (v := 7) (q := 115) d_Txt_stepBehind_113 (by decide +kernel) rfl ?_
              exact j_iret d_Txt_stepBehind_115
            · refine j_iconst (v := 1) (q := 110) d_Txt_stepBehind_109 (by decide) rfl ?_
              refine j_goto (q := 115) d_Txt_stepBehind_110 (by decide) ?_
              exact j_iret d_Txt_stepBehind_115
          · skip
            refine j_ite (fun z1_5 => ?_) (fun z1_5 => ?_)
            · refine j_tabIn (z := 5) (t := 116) (off := 115) d_Txt_stepBehind_1 z1_5 (by decide) (by decide) (by decide) (by decide) ?_
              refine j_iload_n (i := 1) (x := x1) (q := 117) d_Txt_stepBehind_116 rfl rfl rfl ?_
              refine j_bipush (v := 48) (q := 119) d_Txt_stepBehind_117 (by decide +kernel) rfl ?_
              refine j_bipush (v := 52) (q := 121) d_Txt_stepBehind_119 (by decide +kernel) rfl ?_
              refine j_callSNi (S := []) (q := 124) [.int x1, .int (48 : Int32), .int (52 : Int32)] d_Txt_stepBehind_121 mw_Bri_isFromTo ms_Bri_isFromTo ml_Txt_27 rfl rfl (c_Bri_isFromTo hK x1 (48 : Int32) (52 : Int32) X Y) ⟨⟨rfl, rfl⟩, ⟨Nat.le_of_ble_eq_true rfl, Nat.le_of_ble_eq_true rfl⟩, ⟨Nat.le_refl 0, Nat.le_refl 0⟩⟩ (Nat.le_of_ble_eq_true rfl) rfl (fun r15 X13 Y14 => ?_)
              refine j_if_eq (t := 131) (q := 127) d_Txt_stepBehind_124 (by decide) rfl ?_ ?_
              · refine j_bipush (v := 7) (q := 133) d_Txt_stepBehind_131 (by decide +kernel) rfl ?_
                exact j_iret d_Txt_stepBehind_133
              · refine j_iconst (v := 1) (q := 128) d_Txt_stepBehind_127 (by decide) rfl ?_
                refine j_goto (q := 133) d_Txt_stepBehind_128 (by decide) ?_
                exact j_iret d_Txt_stepBehind_133
            · skip
              refine j_ite (fun z1_6 => ?_) (fun z1_6 => ?_)
              · refine j_tabIn (z := 6) (t := 134) (off := 133) d_Txt_stepBehind_1 z1_6 (by decide) (by decide) (by decide) (by decide) ?_
                refine j_iload_n (i := 1) (x := x1) (q := 135) d_Txt_stepBehind_134 rfl rfl rfl ?_
                refine j_bipush (v := 49) (q := 137) d_Txt_stepBehind_135 (by decide +kernel) rfl ?_
                refine j_bipush (v := 52) (q := 139) d_Txt_stepBehind_137 (by decide +kernel) rfl ?_
                refine j_callSNi (S := []) (q := 142) [.int x1, .int (49 : Int32), .int (52 : Int32)] d_Txt_stepBehind_139 mw_Bri_isFromTo ms_Bri_isFromTo ml_Txt_27 rfl rfl (c_Bri_isFromTo hK x1 (49 : Int32) (52 : Int32) X Y) ⟨⟨rfl, rfl⟩, ⟨Nat.le_of_ble_eq_true rfl, Nat.le_of_ble_eq_true rfl⟩, ⟨Nat.le_refl 0, Nat.le_refl 0⟩⟩ (Nat.le_of_ble_eq_true rfl) rfl (fun r18 X16 Y17 => ?_)
                refine j_if_eq (t := 149) (q := 145) d_Txt_stepBehind_142 (by decide) rfl ?_ ?_
                · refine j_bipush (v := 7) (q := 151) d_Txt_stepBehind_149 (by decide +kernel) rfl ?_
                  exact j_iret d_Txt_stepBehind_151
                · refine j_iconst (v := 1) (q := 146) d_Txt_stepBehind_145 (by decide) rfl ?_
                  refine j_goto (q := 151) d_Txt_stepBehind_146 (by decide) ?_
                  exact j_iret d_Txt_stepBehind_151
              · skip
                refine j_tabOut (t := 152) d_Txt_stepBehind_1 (tab_out 6 (fun j hj => by rcases (show j = 0 ∨ j = 1 ∨ j = 2 ∨ j = 3 ∨ j = 4 ∨ j = 5 ∨ j = 6 by omega) with rfl | rfl | rfl | rfl | rfl | rfl | rfl <;> first | exact ne_toInt z1_0 | exact ne_toInt z1_1 | exact ne_toInt z1_2 | exact ne_toInt z1_3 | exact ne_toInt z1_4 | exact ne_toInt z1_5 | exact ne_toInt z1_6)) (by decide) ?_
                refine j_bipush (v := 7) (q := 154) d_Txt_stepBehind_152 (by decide +kernel) rfl ?_
                exact j_iret d_Txt_stepBehind_154
def b_Txt_firstFault_52 (kc : Int32 → Int32 → Int32 → Int32 → HI → HL → Option Out) (kx : Int32 → Int32 → Int32 → Int32 → HI → HL → Option Out) (x1 : Int32) (x2 : Int32) (x3 : Int32) (x4 : Int32) (X : HI) (Y : HL) : Option Out :=
    (if x1 = (7 : Int32) then
    (rI x4 X Y)
    else
    (if (6 : Int32) < x2 then
    (rI x4 X Y)
    else
    (if x3 ≤ (5 : Int32) then
    (kc x1 x2 x3 (x4 + (1 : Int32)) X Y)
    else
    (rI x4 X Y))))
def b_Txt_firstFault_49 (kc : Int32 → Int32 → Int32 → Int32 → HI → HL → Option Out) (kx : Int32 → Int32 → Int32 → Int32 → HI → HL → Option Out) (x1 : Int32) (x2 : Int32) (x3 : Int32) (x4 : Int32) (X : HI) (Y : HL) : Option Out :=
    (b_Txt_firstFault_52 kc kx x1 x2 (x3 + (1 : Int32)) x4 X Y)
def b_Txt_firstFault_38 (kc : Int32 → Int32 → Int32 → Int32 → HI → HL → Option Out) (kx : Int32 → Int32 → Int32 → Int32 → HI → HL → Option Out) (x1 : Int32) (x2 : Int32) (x3 : Int32) (x4 : Int32) (X : HI) (Y : HL) : Option Out :=
    (if x1 = (5 : Int32) then
    (b_Txt_firstFault_49 kc kx x1 x2 x3 x4 X Y)
    else
    (if x1 = (6 : Int32) then
    (b_Txt_firstFault_49 kc kx x1 x2 x3 x4 X Y)
    else
    (b_Txt_firstFault_52 kc kx x1 x2 x3 x4 X Y)))
def l_Txt_firstFault_9 (kx : Int32 → Int32 → Int32 → Int32 → HI → HL → Option Out) : Nat → Int32 → Int32 → Int32 → Int32 → HI → HL → Option Out
  | 0, _, _, _, _, _, _ => none
  | n + 1, m1, m2, m3, m4, X, Y =>
    (if (X 1 1) ≤ m4 then
    (kx m1 m2 m3 m4 X Y)
    else
    gd (ixb m4 36) (
    bi (f_Txt_stepBehind m1 (X 2 m4.toNatClampNeg) X Y) (fun r3 X1 Y2 =>
    (if r3 = (2 : Int32) then
    (b_Txt_firstFault_38 (fun a1 a2 a3 a4 A B => l_Txt_firstFault_9 kx n a1 a2 a3 a4 A B) kx r3 (m2 + (1 : Int32)) m3 m4 X1 Y2)
    else
    (b_Txt_firstFault_38 (fun a1 a2 a3 a4 A B => l_Txt_firstFault_9 kx n a1 a2 a3 a4 A B) kx r3 m2 m3 m4 X1 Y2)))))
def f_Txt_firstFault (X : HI) (Y : HL) : Option Out :=
    (l_Txt_firstFault_9 (fun w4 w5 w6 w7 X8 Y9 =>
    (if w4 = (1 : Int32) then
    (rI (-9 : Int32) X8 Y9)
    else
    (rI (X8 1 1) X8 Y9))) 256 (0 : Int32) (0 : Int32) (0 : Int32) (0 : Int32) X Y)
set_option maxRecDepth 4000 in
theorem jb_Txt_firstFault_52 {K : KK} (hK : kOK K) (kc : Int32 → Int32 → Int32 → Int32 → HI → HL → Option Out) (kx : Int32 → Int32 → Int32 → Int32 → HI → HL → Option Out) (x1 : Int32) (x2 : Int32) (x3 : Int32) (x4 : Int32) (hkc : ∀ (m1 : Int32) (m2 : Int32) (m3 : Int32) (m4 : Int32) (X : HI) (Y : HL), JO K "BrinePans$Text" prog_6_method_4_code 5 (some .int) rm_Txt_firstFault 0 0 (MZ K) 9 [some (.ref 1), some (.int m1), some (.int m2), some (.int m3), some (.int m4)] [] X Y (kc m1 m2 m3 m4 X Y)) (hkx : ∀ (m1 : Int32) (m2 : Int32) (m3 : Int32) (m4 : Int32) (X : HI) (Y : HL), JO K "BrinePans$Text" prog_6_method_4_code 5 (some .int) rm_Txt_firstFault 0 0 (MZ K) 78 [some (.ref 1), some (.int m1), none, none, none] [] X Y (kx m1 m2 m3 m4 X Y)) (X : HI) (Y : HL) : JO K "BrinePans$Text" prog_6_method_4_code 5 (some .int) rm_Txt_firstFault 0 0 (MZ K) 52 [some (.ref 1), some (.int x1), some (.int x2), some (.int x3), some (.int x4)] [] X Y (b_Txt_firstFault_52 kc kx x1 x2 x3 x4 X Y) := by
  unfold b_Txt_firstFault_52
  refine j_iload_n (i := 1) (x := x1) (q := 53) d_Txt_firstFault_52 rfl rfl rfl ?_
  refine j_bipush (v := 7) (q := 55) d_Txt_firstFault_53 (by decide +kernel) rfl ?_
  refine j_icmp_eq (t := 69) (q := 58) d_Txt_firstFault_55 (by decide) rfl ?_ ?_
  · refine j_iload (i := 4) (x := x4) (q := 71) d_Txt_firstFault_69 rfl rfl ?_
    exact j_iret d_Txt_firstFault_71
  · refine j_iload_n (i := 2) (x := x2) (q := 59) d_Txt_firstFault_58 rfl rfl rfl ?_
    refine j_bipush (v := 6) (q := 61) d_Txt_firstFault_59 (by decide +kernel) rfl ?_
    refine j_icmp_gt (t := 69) (q := 64) d_Txt_firstFault_61 (by decide) rfl ?_ ?_
    · refine j_iload (i := 4) (x := x4) (q := 71) d_Txt_firstFault_69 rfl rfl ?_
      exact j_iret d_Txt_firstFault_71
    · refine j_iload_n (i := 3) (x := x3) (q := 65) d_Txt_firstFault_64 rfl rfl rfl ?_
      refine j_iconst (v := 5) (q := 66) d_Txt_firstFault_65 (by decide) rfl ?_
      refine j_icmp_le (t := 72) (q := 69) d_Txt_firstFault_66 (by decide) rfl ?_ ?_
      · refine j_iinc (i := 4) (x := x4) (d := 1) (L' := [some (.ref 1), some (.int x1), some (.int x2), some (.int x3), some (.int (x4 + (1 : Int32)))]) (q := 75) d_Txt_firstFault_72 rfl (by decide) (by decide) rfl rfl rfl ?_
        refine j_goto (q := 9) d_Txt_firstFault_75 (by decide) ?_
        refine j_sub (L' := [some (.ref 1), some (.int x1), some (.int x2), some (.int x3), some (.int (x4 + (1 : Int32)))]) ⟨rfl, ⟨rfl, ⟨rfl, ⟨rfl, ⟨rfl, trivial⟩⟩⟩⟩⟩ ?_
        exact hkc x1 x2 x3 (x4 + (1 : Int32)) X Y
      · refine j_iload (i := 4) (x := x4) (q := 71) d_Txt_firstFault_69 rfl rfl ?_
        exact j_iret d_Txt_firstFault_71
set_option maxRecDepth 4000 in
theorem jb_Txt_firstFault_49 {K : KK} (hK : kOK K) (kc : Int32 → Int32 → Int32 → Int32 → HI → HL → Option Out) (kx : Int32 → Int32 → Int32 → Int32 → HI → HL → Option Out) (x1 : Int32) (x2 : Int32) (x3 : Int32) (x4 : Int32) (hkc : ∀ (m1 : Int32) (m2 : Int32) (m3 : Int32) (m4 : Int32) (X : HI) (Y : HL), JO K "BrinePans$Text" prog_6_method_4_code 5 (some .int) rm_Txt_firstFault 0 0 (MZ K) 9 [some (.ref 1), some (.int m1), some (.int m2), some (.int m3), some (.int m4)] [] X Y (kc m1 m2 m3 m4 X Y)) (hkx : ∀ (m1 : Int32) (m2 : Int32) (m3 : Int32) (m4 : Int32) (X : HI) (Y : HL), JO K "BrinePans$Text" prog_6_method_4_code 5 (some .int) rm_Txt_firstFault 0 0 (MZ K) 78 [some (.ref 1), some (.int m1), none, none, none] [] X Y (kx m1 m2 m3 m4 X Y)) (X : HI) (Y : HL) : JO K "BrinePans$Text" prog_6_method_4_code 5 (some .int) rm_Txt_firstFault 0 0 (MZ K) 49 [some (.ref 1), some (.int x1), some (.int x2), some (.int x3), some (.int x4)] [] X Y (b_Txt_firstFault_49 kc kx x1 x2 x3 x4 X Y) := by
  unfold b_Txt_firstFault_49
  refine j_iinc (i := 3) (x := x3) (d := 1) (L' := [some (.ref 1), some (.int x1), some (.int x2), some (.int (x3 + (1 : Int32))), some (.int x4)]) (q := 52) d_Txt_firstFault_49 rfl (by decide) (by decide) rfl rfl rfl ?_
  refine j_sub (L' := [some (.ref 1), some (.int x1), some (.int x2), some (.int (x3 + (1 : Int32))), some (.int x4)]) ⟨rfl, ⟨rfl, ⟨rfl, ⟨rfl, ⟨rfl, trivial⟩⟩⟩⟩⟩ ?_
  exact jb_Txt_firstFault_52 hK kc kx x1 x2 (x3 + (1 : Int32)) x4 hkc hkx X Y
set_option maxRecDepth 4000 in
theorem jb_Txt_firstFault_38 {K : KK} (hK : kOK K) (kc : Int32 → Int32 → Int32 → Int32 → HI → HL → Option Out) (kx : Int32 → Int32 → Int32 → Int32 → HI → HL → Option Out) (x1 : Int32) (x2 : Int32) (x3 : Int32) (x4 : Int32) (hkc : ∀ (m1 : Int32) (m2 : Int32) (m3 : Int32) (m4 : Int32) (X : HI) (Y : HL), JO K "BrinePans$Text" prog_6_method_4_code 5 (some .int) rm_Txt_firstFault 0 0 (MZ K) 9 [some (.ref 1), some (.int m1), some (.int m2), some (.int m3), some (.int m4)] [] X Y (kc m1 m2 m3 m4 X Y)) (hkx : ∀ (m1 : Int32) (m2 : Int32) (m3 : Int32) (m4 : Int32) (X : HI) (Y : HL), JO K "BrinePans$Text" prog_6_method_4_code 5 (some .int) rm_Txt_firstFault 0 0 (MZ K) 78 [some (.ref 1), some (.int m1), none, none, none] [] X Y (kx m1 m2 m3 m4 X Y)) (X : HI) (Y : HL) : JO K "BrinePans$Text" prog_6_method_4_code 5 (some .int) rm_Txt_firstFault 0 0 (MZ K) 38 [some (.ref 1), some (.int x1), some (.int x2), some (.int x3), some (.int x4)] [] X Y (b_Txt_firstFault_38 kc kx x1 x2 x3 x4 X Y) := by
  unfold b_Txt_firstFault_38
  refine j_iload_n (i := 1) (x := x1) (q := 39) d_Txt_firstFault_38 rfl rfl rfl ?_
  refine j_iconst (v := 5) (q := 40) d_Txt_firstFault_39 (by decide) rfl ?_
  refine j_icmp_eq (t := 49) (q := 43) d_Txt_firstFault_40 (by decide) rfl ?_ ?_
  · refine j_sub (L' := [some (.ref 1), some (.int x1), some (.int x2), some (.int x3), some (.int x4)]) ⟨rfl, ⟨rfl, ⟨rfl, ⟨rfl, ⟨rfl, trivial⟩⟩⟩⟩⟩ ?_
    exact jb_Txt_firstFault_49 hK kc kx x1 x2 x3 x4 hkc hkx X Y
  · refine j_iload_n (i := 1) (x := x1) (q := 44) d_Txt_firstFault_43 rfl rfl rfl ?_
    refine j_bipush (v := 6) (q := 46) d_Txt_firstFault_44 (by decide +kernel) rfl ?_
    refine j_icmp_ne (t := 52) (q := 49) d_Txt_firstFault_46 (by decide) rfl ?_ ?_
    · refine j_sub (L' := [some (.ref 1), some (.int x1), some (.int x2), some (.int x3), some (.int x4)]) ⟨rfl, ⟨rfl, ⟨rfl, ⟨rfl, ⟨rfl, trivial⟩⟩⟩⟩⟩ ?_
      exact jb_Txt_firstFault_52 hK kc kx x1 x2 x3 x4 hkc hkx X Y
    · refine j_sub (L' := [some (.ref 1), some (.int x1), some (.int x2), some (.int x3), some (.int x4)]) ⟨rfl, ⟨rfl, ⟨rfl, ⟨rfl, ⟨rfl, trivial⟩⟩⟩⟩⟩ ?_
      exact jb_Txt_firstFault_49 hK kc kx x1 x2 x3 x4 hkc hkx X Y
set_option maxRecDepth 4000 in
theorem jl_Txt_firstFault_9 {K : KK} (hK : kOK K) (kx : Int32 → Int32 → Int32 → Int32 → HI → HL → Option Out) (hkx : ∀ (m1 : Int32) (m2 : Int32) (m3 : Int32) (m4 : Int32) (X : HI) (Y : HL), JO K "BrinePans$Text" prog_6_method_4_code 5 (some .int) rm_Txt_firstFault 0 0 (MZ K) 78 [some (.ref 1), some (.int m1), none, none, none] [] X Y (kx m1 m2 m3 m4 X Y)) : ∀ (n : Nat) (m1 : Int32) (m2 : Int32) (m3 : Int32) (m4 : Int32) (X : HI) (Y : HL), JO K "BrinePans$Text" prog_6_method_4_code 5 (some .int) rm_Txt_firstFault 0 0 (MZ K) 9 [some (.ref 1), some (.int m1), some (.int m2), some (.int m3), some (.int m4)] [] X Y (l_Txt_firstFault_9 kx n m1 m2 m3 m4 X Y) := by
  intro n
  induction n with
  | zero =>
    intro m1 m2 m3 m4 X Y
    rw [l_Txt_firstFault_9]
    exact j_none
  | succ n ih =>
    intro m1 m2 m3 m4 X Y
    rw [l_Txt_firstFault_9]
    refine j_iload (i := 4) (x := m4) (q := 11) d_Txt_firstFault_9 rfl rfl ?_
    refine j_aload_n (i := 0) (x := 1) (q := 12) d_Txt_firstFault_11 rfl rfl rfl ?_
    refine j_get (v := .int (X 1 1)) (q := 15) d_Txt_firstFault_12 fk_Txt_15 fv_1_1 rfl ?_
    refine j_icmp_ge (t := 78) (q := 18) d_Txt_firstFault_15 (by decide) rfl ?_ ?_
    · refine j_sub (L' := [some (.ref 1), some (.int m1), none, none, none]) ⟨rfl, ⟨rfl, trivial⟩⟩ ?_
      exact hkx m1 m2 m3 m4 X Y
    · refine j_iload_n (i := 1) (x := m1) (q := 19) d_Txt_firstFault_18 rfl rfl rfl ?_
      refine j_aload_n (i := 0) (x := 1) (q := 20) d_Txt_firstFault_19 rfl rfl rfl ?_
      refine j_get (v := .ref 2) (q := 23) d_Txt_firstFault_20 fk_Txt_9 fv_1_0 rfl ?_
      refine j_iload (i := 4) (x := m4) (q := 25) d_Txt_firstFault_23 rfl rfl ?_
      refine j_iald (q := 26) d_Txt_firstFault_25 ai_2 rfl ?_
      refine j_callSi (S := []) (q := 29) [.int m1, .int (X 2 m4.toNatClampNeg)] d_Txt_firstFault_26 mw_Txt_stepBehind ms_Txt_stepBehind ml_Txt_19 rfl rfl (c_Txt_stepBehind hK m1 (X 2 m4.toNatClampNeg) X Y) ⟨⟨rfl, rfl⟩, ⟨Nat.le_of_ble_eq_true rfl, Nat.le_of_ble_eq_true rfl⟩, ⟨Nat.le_refl 0, Nat.le_refl 0⟩⟩ (Nat.le_of_ble_eq_true rfl) rfl (fun r3 X1 Y2 => ?_)
      refine j_istore_n (i := 1) (L' := [some (.ref 1), some (.int r3), some (.int m2), some (.int m3), some (.int m4)]) (q := 30) d_Txt_firstFault_29 rfl (by decide) rfl rfl rfl ?_
      refine j_iload_n (i := 1) (x := r3) (q := 31) d_Txt_firstFault_30 rfl rfl rfl ?_
      refine j_iconst (v := 2) (q := 32) d_Txt_firstFault_31 (by decide) rfl ?_
      refine j_icmp_ne (t := 38) (q := 35) d_Txt_firstFault_32 (by decide) rfl ?_ ?_
      · refine j_sub (L' := [some (.ref 1), some (.int r3), some (.int m2), some (.int m3), some (.int m4)]) ⟨rfl, ⟨rfl, ⟨rfl, ⟨rfl, ⟨rfl, trivial⟩⟩⟩⟩⟩ ?_
        exact jb_Txt_firstFault_38 hK (fun a1 a2 a3 a4 A B => l_Txt_firstFault_9 kx n a1 a2 a3 a4 A B) kx r3 m2 m3 m4 ih hkx X1 Y2
      · refine j_iinc (i := 2) (x := m2) (d := 1) (L' := [some (.ref 1), some (.int r3), some (.int (m2 + (1 : Int32))), some (.int m3), some (.int m4)]) (q := 38) d_Txt_firstFault_35 rfl (by decide) (by decide) rfl rfl rfl ?_
        refine j_sub (L' := [some (.ref 1), some (.int r3), some (.int (m2 + (1 : Int32))), some (.int m3), some (.int m4)]) ⟨rfl, ⟨rfl, ⟨rfl, ⟨rfl, ⟨rfl, trivial⟩⟩⟩⟩⟩ ?_
        exact jb_Txt_firstFault_38 hK (fun a1 a2 a3 a4 A B => l_Txt_firstFault_9 kx n a1 a2 a3 a4 A B) kx r3 (m2 + (1 : Int32)) m3 m4 ih hkx X1 Y2
set_option maxRecDepth 4000 in
theorem c_Txt_firstFault {K : KK} (hK : kOK K) (X : HI) (Y : HL) : CT K y_Txt_firstFault prog_6_method_4_code 5 (some .int) rm_Txt_firstFault [.ref 1] X Y (f_Txt_firstFault X Y) := by
  refine ct_of hK (L := [some (.ref 1), none, none, none, none]) (by decide) ⟨rfl, trivial⟩ (Nat.le_of_ble_eq_true rfl) ?_
  unfold f_Txt_firstFault
  refine j_iconst (v := 0) (q := 1) d_Txt_firstFault_0 (by decide) rfl ?_
  refine j_istore_n (i := 1) (L' := [some (.ref 1), some (.int (0 : Int32)), none, none, none]) (q := 2) d_Txt_firstFault_1 rfl (by decide) rfl rfl rfl ?_
  refine j_iconst (v := 0) (q := 3) d_Txt_firstFault_2 (by decide) rfl ?_
  refine j_istore_n (i := 2) (L' := [some (.ref 1), some (.int (0 : Int32)), some (.int (0 : Int32)), none, none]) (q := 4) d_Txt_firstFault_3 rfl (by decide) rfl rfl rfl ?_
  refine j_iconst (v := 0) (q := 5) d_Txt_firstFault_4 (by decide) rfl ?_
  refine j_istore_n (i := 3) (L' := [some (.ref 1), some (.int (0 : Int32)), some (.int (0 : Int32)), some (.int (0 : Int32)), none]) (q := 6) d_Txt_firstFault_5 rfl (by decide) rfl rfl rfl ?_
  refine j_iconst (v := 0) (q := 7) d_Txt_firstFault_6 (by decide) rfl ?_
  refine j_istore (i := 4) (L' := [some (.ref 1), some (.int (0 : Int32)), some (.int (0 : Int32)), some (.int (0 : Int32)), some (.int (0 : Int32))]) (q := 9) d_Txt_firstFault_7 (by decide) rfl rfl rfl ?_
  refine j_sub (L' := [some (.ref 1), some (.int (0 : Int32)), some (.int (0 : Int32)), some (.int (0 : Int32)), some (.int (0 : Int32))]) ⟨rfl, ⟨rfl, ⟨rfl, ⟨rfl, ⟨rfl, trivial⟩⟩⟩⟩⟩ ?_
  refine jl_Txt_firstFault_9 hK _ (fun w4 w5 w6 w7 X8 Y9 => ?_) 256 (0 : Int32) (0 : Int32) (0 : Int32) (0 : Int32) X Y
  refine j_iload_n (i := 1) (x := w4) (q := 79) d_Txt_firstFault_78 rfl rfl rfl ?_
  refine j_iconst (v := 1) (q := 80) d_Txt_firstFault_79 (by decide) rfl ?_
  refine j_icmp_ne (t := 88) (q := 83) d_Txt_firstFault_80 (by decide) rfl ?_ ?_
  · refine j_aload_n (i := 0) (x := 1) (q := 89) d_Txt_firstFault_88 rfl rfl rfl ?_
    refine j_get (v := .int (X8 1 1)) (q := 92) d_Txt_firstFault_89 fk_Txt_15 fv_1_1 rfl ?_
    exact j_iret d_Txt_firstFault_92
  · refine j_bipush (v := -9) (q := 85) d_Txt_firstFault_83 (by decide +kernel) rfl ?_
    refine j_goto (q := 92) d_Txt_firstFault_85 (by decide) ?_
    exact j_iret d_Txt_firstFault_92
def b_Txt_layOut_137 (kc : Int32 → Int32 → HI → HL → Option Out) (kx : Int32 → Int32 → HI → HL → Option Out) (x3 : Int32) (x4 : Int32) (X : HI) (Y : HL) : Option Out :=
    gd (ixb x4 36) (
    bi (f_Txt_stepBehind x3 (X 2 x4.toNatClampNeg) X Y) (fun r10 X8 Y9 =>
    (kc r10 (x4 + (1 : Int32)) X8 Y9)))
def l_Txt_layOut_13 (kx : Int32 → Int32 → HI → HL → Option Out) : Nat → Int32 → Int32 → HI → HL → Option Out
  | 0, _, _, _, _ => none
  | n + 1, m3, m4, X, Y =>
    (if (X 1 1) ≤ m4 then
    (kx m3 m4 X Y)
    else
    gd (ixb m4 36) (
    lt ((X 2 m4.toNatClampNeg) - (48 : Int32)) (fun v5 =>
    (if m3 = (2 : Int32) then
    bv (f_Gro_addPan v5 X Y) (fun X6 Y7 =>
    (b_Txt_layOut_137 (fun a3 a4 A B => l_Txt_layOut_13 kx n a3 a4 A B) kx m3 m4 X6 Y7))
    else
    (if m3 = (3 : Int32) then
    bv (f_Pan_lay 16 17 ((X 3 2) - (1 : Int32)) v5 X Y) (fun X11 Y12 =>
    (b_Txt_layOut_137 (fun a3 a4 A B => l_Txt_layOut_13 kx n a3 a4 A B) kx m3 m4 X11 Y12))
    else
    (if m3 = (4 : Int32) then
    bv (f_Pan_lay 16 18 ((X 3 2) - (1 : Int32)) ((10 : Int32) * v5) X Y) (fun X13 Y14 =>
    (b_Txt_layOut_137 (fun a3 a4 A B => l_Txt_layOut_13 kx n a3 a4 A B) kx m3 m4 X13 Y14))
    else
    (if m3 = (5 : Int32) then
    bv (f_Gro_addSky v5 X Y) (fun X15 Y16 =>
    (b_Txt_layOut_137 (fun a3 a4 A B => l_Txt_layOut_13 kx n a3 a4 A B) kx m3 m4 X15 Y16))
    else
    (if m3 = (6 : Int32) then
    bv (f_Gro_addSky (-v5) X Y) (fun X17 Y18 =>
    (b_Txt_layOut_137 (fun a3 a4 A B => l_Txt_layOut_13 kx n a3 a4 A B) kx m3 m4 X17 Y18))
    else
    (b_Txt_layOut_137 (fun a3 a4 A B => l_Txt_layOut_13 kx n a3 a4 A B) kx m3 m4 X Y)))))))))
def f_Txt_layOut (X : HI) (Y : HL) : Option Out :=
    bv (f_Gro_clear X Y) (fun X1 Y2 =>
    bv (f_Pan_clear 16 X1 Y2) (fun X3 Y4 =>
    (l_Txt_layOut_13 (fun w19 w20 X21 Y22 =>
    (rV X21 Y22)) 256 (0 : Int32) (0 : Int32) X3 Y4)))
set_option maxRecDepth 4000 in
theorem jb_Txt_layOut_137 {K : KK} (hK : kOK K) (kc : Int32 → Int32 → HI → HL → Option Out) (kx : Int32 → Int32 → HI → HL → Option Out) (x3 : Int32) (x4 : Int32) (hkc : ∀ (m3 : Int32) (m4 : Int32) (X : HI) (Y : HL), JO K "BrinePans$Text" prog_6_method_7_code 6 none rm_Txt_layOut 0 0 (MZ K) 13 [some (.ref 1), some (.ref 3), some (.ref 16), some (.int m3), some (.int m4), none] [] X Y (kc m3 m4 X Y)) (hkx : ∀ (m3 : Int32) (m4 : Int32) (X : HI) (Y : HL), JO K "BrinePans$Text" prog_6_method_7_code 6 none rm_Txt_layOut 0 0 (MZ K) 155 [none, none, none, none, none, none] [] X Y (kx m3 m4 X Y)) (X : HI) (Y : HL) : JO K "BrinePans$Text" prog_6_method_7_code 6 none rm_Txt_layOut 0 0 (MZ K) 137 [some (.ref 1), some (.ref 3), some (.ref 16), some (.int x3), some (.int x4), none] [] X Y (b_Txt_layOut_137 kc kx x3 x4 X Y) := by
  unfold b_Txt_layOut_137
  refine j_iload_n (i := 3) (x := x3) (q := 138) d_Txt_layOut_137 rfl rfl rfl ?_
  refine j_aload_n (i := 0) (x := 1) (q := 139) d_Txt_layOut_138 rfl rfl rfl ?_
  refine j_get (v := .ref 2) (q := 142) d_Txt_layOut_139 fk_Txt_9 fv_1_0 rfl ?_
  refine j_iload (i := 4) (x := x4) (q := 144) d_Txt_layOut_142 rfl rfl ?_
  refine j_iald (q := 145) d_Txt_layOut_144 ai_2 rfl ?_
  refine j_callSi (S := []) (q := 148) [.int x3, .int (X 2 x4.toNatClampNeg)] d_Txt_layOut_145 mw_Txt_stepBehind ms_Txt_stepBehind ml_Txt_19 rfl rfl (c_Txt_stepBehind hK x3 (X 2 x4.toNatClampNeg) X Y) ⟨⟨rfl, rfl⟩, ⟨Nat.le_of_ble_eq_true rfl, Nat.le_of_ble_eq_true rfl⟩, ⟨Nat.le_refl 0, Nat.le_refl 0⟩⟩ (Nat.le_of_ble_eq_true rfl) rfl (fun r10 X8 Y9 => ?_)
  refine j_istore_n (i := 3) (L' := [some (.ref 1), some (.ref 3), some (.ref 16), some (.int r10), some (.int x4), none]) (q := 149) d_Txt_layOut_148 rfl (by decide) rfl rfl rfl ?_
  refine j_iinc (i := 4) (x := x4) (d := 1) (L' := [some (.ref 1), some (.ref 3), some (.ref 16), some (.int r10), some (.int (x4 + (1 : Int32))), none]) (q := 152) d_Txt_layOut_149 rfl (by decide) (by decide) rfl rfl rfl ?_
  refine j_goto (q := 13) d_Txt_layOut_152 (by decide) ?_
  refine j_sub (L' := [some (.ref 1), some (.ref 3), some (.ref 16), some (.int r10), some (.int (x4 + (1 : Int32))), none]) ⟨rfl, ⟨rfl, ⟨rfl, ⟨rfl, ⟨rfl, trivial⟩⟩⟩⟩⟩ ?_
  exact hkc r10 (x4 + (1 : Int32)) X8 Y9
set_option maxRecDepth 4000 in
theorem jl_Txt_layOut_13 {K : KK} (hK : kOK K) (kx : Int32 → Int32 → HI → HL → Option Out) (hkx : ∀ (m3 : Int32) (m4 : Int32) (X : HI) (Y : HL), JO K "BrinePans$Text" prog_6_method_7_code 6 none rm_Txt_layOut 0 0 (MZ K) 155 [none, none, none, none, none, none] [] X Y (kx m3 m4 X Y)) : ∀ (n : Nat) (m3 : Int32) (m4 : Int32) (X : HI) (Y : HL), JO K "BrinePans$Text" prog_6_method_7_code 6 none rm_Txt_layOut 0 0 (MZ K) 13 [some (.ref 1), some (.ref 3), some (.ref 16), some (.int m3), some (.int m4), none] [] X Y (l_Txt_layOut_13 kx n m3 m4 X Y) := by
  intro n
  induction n with
  | zero =>
    intro m3 m4 X Y
    rw [l_Txt_layOut_13]
    exact j_none
  | succ n ih =>
    intro m3 m4 X Y
    rw [l_Txt_layOut_13]
    refine j_iload (i := 4) (x := m4) (q := 15) d_Txt_layOut_13 rfl rfl ?_
    refine j_aload_n (i := 0) (x := 1) (q := 16) d_Txt_layOut_15 rfl rfl rfl ?_
    refine j_get (v := .int (X 1 1)) (q := 19) d_Txt_layOut_16 fk_Txt_15 fv_1_1 rfl ?_
    refine j_icmp_ge (t := 155) (q := 22) d_Txt_layOut_19 (by decide) rfl ?_ ?_
    · refine j_sub (L' := [none, none, none, none, none, none]) trivial ?_
      exact hkx m3 m4 X Y
    · refine j_aload_n (i := 0) (x := 1) (q := 23) d_Txt_layOut_22 rfl rfl rfl ?_
      refine j_get (v := .ref 2) (q := 26) d_Txt_layOut_23 fk_Txt_9 fv_1_0 rfl ?_
      refine j_iload (i := 4) (x := m4) (q := 28) d_Txt_layOut_26 rfl rfl ?_
      refine j_iald (q := 29) d_Txt_layOut_28 ai_2 rfl ?_
      refine j_bipush (v := 48) (q := 31) d_Txt_layOut_29 (by decide +kernel) rfl ?_
      refine j_isub (q := 32) d_Txt_layOut_31 rfl ?_
      refine j_lt (fun v5 => ?_)
      refine j_istore (i := 5) (L' := [some (.ref 1), some (.ref 3), some (.ref 16), some (.int m3), some (.int m4), some (.int v5)]) (q := 34) d_Txt_layOut_32 (by decide) rfl rfl rfl ?_
      refine j_iload_n (i := 3) (x := m3) (q := 35) d_Txt_layOut_34 rfl rfl rfl ?_
      refine j_ite (fun z35_0 => ?_) (fun z35_0 => ?_)
      · refine j_tabIn (z := 2) (t := 68) (off := 33) d_Txt_layOut_35 z35_0 (by decide) (by decide) (by decide) (by decide) ?_
        refine j_aload_n (i := 1) (x := 3) (q := 69) d_Txt_layOut_68 rfl rfl rfl ?_
        refine j_iload (i := 5) (x := v5) (q := 71) d_Txt_layOut_69 rfl rfl ?_
        refine j_callVNv (a := 3) (S := []) (q := 74) [.int v5] d_Txt_layOut_71 mw_Gro_addPan mv_Gro_addPan ml_Txt_39 ob_3 rfl rfl (c_Gro_addPan hK v5 X Y) ⟨⟨rfl, rfl⟩, ⟨Nat.le_of_ble_eq_true rfl, Nat.le_of_ble_eq_true rfl⟩, ⟨Nat.le_refl 0, Nat.le_refl 0⟩⟩ (Nat.le_of_ble_eq_true rfl) rfl (fun X6 Y7 => ?_)
        refine j_goto (q := 137) d_Txt_layOut_74 (by decide) ?_
        refine j_sub (L' := [some (.ref 1), some (.ref 3), some (.ref 16), some (.int m3), some (.int m4), none]) ⟨rfl, ⟨rfl, ⟨rfl, ⟨rfl, ⟨rfl, trivial⟩⟩⟩⟩⟩ ?_
        exact jb_Txt_layOut_137 hK (fun a3 a4 A B => l_Txt_layOut_13 kx n a3 a4 A B) kx m3 m4 ih hkx X6 Y7
      · skip
        refine j_ite (fun z35_1 => ?_) (fun z35_1 => ?_)
        · refine j_tabIn (z := 3) (t := 77) (off := 42) d_Txt_layOut_35 z35_1 (by decide) (by decide) (by decide) (by decide) ?_
          refine j_aload_n (i := 2) (x := 16) (q := 78) d_Txt_layOut_77 rfl rfl rfl ?_
          refine j_aload_n (i := 2) (x := 16) (q := 79) d_Txt_layOut_78 rfl rfl rfl ?_
          refine j_get (v := .ref 17) (q := 82) d_Txt_layOut_79 fk_Txt_43 (fv_P1 isP_16) rfl ?_
          refine j_aload_n (i := 1) (x := 3) (q := 83) d_Txt_layOut_82 rfl rfl rfl ?_
          refine j_get (v := .int (X 3 2)) (q := 86) d_Txt_layOut_83 fk_Txt_46 fv_3_2 rfl ?_
          refine j_iconst (v := 1) (q := 87) d_Txt_layOut_86 (by decide) rfl ?_
          refine j_isub (q := 88) d_Txt_layOut_87 rfl ?_
          refine j_iload (i := 5) (x := v5) (q := 90) d_Txt_layOut_88 rfl rfl ?_
          refine j_callVNv (a := 16) (S := []) (q := 93) [.ref 17, .int ((X 3 2) - (1 : Int32)), .int v5] d_Txt_layOut_90 mw_Pan_lay mv_Pan_lay ml_Txt_49 (ob_P isP_16) rfl rfl (c_Pan_lay hK 16 17 isP_16 ai_17 ((X 3 2) - (1 : Int32)) v5 X Y) ⟨⟨rfl, rfl⟩, ⟨Nat.le_of_ble_eq_true rfl, Nat.le_of_ble_eq_true rfl⟩, ⟨Nat.le_refl 0, Nat.le_refl 0⟩⟩ (Nat.le_of_ble_eq_true rfl) rfl (fun X11 Y12 => ?_)
          refine j_goto (q := 137) d_Txt_layOut_93 (by decide) ?_
          refine j_sub (L' := [some (.ref 1), some (.ref 3), some (.ref 16), some (.int m3), some (.int m4), none]) ⟨rfl, ⟨rfl, ⟨rfl, ⟨rfl, ⟨rfl, trivial⟩⟩⟩⟩⟩ ?_
          exact jb_Txt_layOut_137 hK (fun a3 a4 A B => l_Txt_layOut_13 kx n a3 a4 A B) kx m3 m4 ih hkx X11 Y12
        · skip
          refine j_ite (fun z35_2 => ?_) (fun z35_2 => ?_)
          · refine j_tabIn (z := 4) (t := 96) (off := 61) d_Txt_layOut_35 z35_2 (by decide) (by decide) (by decide) (by decide) ?_
            refine j_aload_n (i := 2) (x := 16) (q := 97) d_Txt_layOut_96 rfl rfl rfl ?_
            refine j_aload_n (i := 2) (x := 16) (q := 98) d_Txt_layOut_97 rfl rfl rfl ?_
            refine j_get (v := .ref 18) (q := 101) d_Txt_layOut_98 fk_Txt_53 (fv_P2 isP_16) rfl ?_
            refine j_aload_n (i := 1) (x := 3) (q := 102) d_Txt_layOut_101 rfl rfl rfl ?_
            refine j_get (v := .int (X 3 2)) (q := 105) d_Txt_layOut_102 fk_Txt_46 fv_3_2 rfl ?_
            refine j_iconst (v := 1) (q := 106) d_Txt_layOut_105 (by decide) rfl ?_
            refine j_isub (q := 107) d_Txt_layOut_106 rfl ?_
            refine j_bipush (v := 10) (q := 109) d_Txt_layOut_107 (by decide +kernel) rfl ?_
            refine j_iload (i := 5) (x := v5) (q := 111) d_Txt_layOut_109 rfl rfl ?_
            refine j_imul (q := 112) d_Txt_layOut_111 rfl ?_
            refine j_callVNv (a := 16) (S := []) (q := 115) [.ref 18, .int ((X 3 2) - (1 : Int32)), .int ((10 : Int32) * v5)] d_Txt_layOut_112 mw_Pan_lay mv_Pan_lay ml_Txt_49 (ob_P isP_16) rfl rfl (c_Pan_lay hK 16 18 isP_16 ai_18 ((X 3 2) - (1 : Int32)) ((10 : Int32) * v5) X Y) ⟨⟨rfl, rfl⟩, ⟨Nat.le_of_ble_eq_true rfl, Nat.le_of_ble_eq_true rfl⟩, ⟨Nat.le_refl 0, Nat.le_refl 0⟩⟩ (Nat.le_of_ble_eq_true rfl) rfl (fun X13 Y14 => ?_)
            refine j_goto (q := 137) d_Txt_layOut_115 (by decide) ?_
            refine j_sub (L' := [some (.ref 1), some (.ref 3), some (.ref 16), some (.int m3), some (.int m4), none]) ⟨rfl, ⟨rfl, ⟨rfl, ⟨rfl, ⟨rfl, trivial⟩⟩⟩⟩⟩ ?_
            exact jb_Txt_layOut_137 hK (fun a3 a4 A B => l_Txt_layOut_13 kx n a3 a4 A B) kx m3 m4 ih hkx X13 Y14
          · skip
            refine j_ite (fun z35_3 => ?_) (fun z35_3 => ?_)
            · refine j_tabIn (z := 5) (t := 118) (off := 83) d_Txt_layOut_35 z35_3 (by decide) (by decide) (by decide) (by decide) ?_
              refine j_aload_n (i := 1) (x := 3) (q := 119) d_Txt_layOut_118 rfl rfl rfl ?_
              refine j_iload (i := 5) (x := v5) (q := 121) d_Txt_layOut_119 rfl rfl ?_
              refine j_callVNv (a := 3) (S := []) (q := 124) [.int v5] d_Txt_layOut_121 mw_Gro_addSky mv_Gro_addSky ml_Txt_56 ob_3 rfl rfl (c_Gro_addSky hK v5 X Y) ⟨⟨rfl, rfl⟩, ⟨Nat.le_of_ble_eq_true rfl, Nat.le_of_ble_eq_true rfl⟩, ⟨Nat.le_refl 0, Nat.le_refl 0⟩⟩ (Nat.le_of_ble_eq_true rfl) rfl (fun X15 Y16 => ?_)
              refine j_goto (q := 137) d_Txt_layOut_124 (by decide) ?_
              refine j_sub (L' := [some (.ref 1), some (.ref 3), some (.ref 16), some (.int m3), some (.int m4), none]) ⟨rfl, ⟨rfl, ⟨rfl, ⟨rfl, ⟨rfl, trivial⟩⟩⟩⟩⟩ ?_
              exact jb_Txt_layOut_137 hK (fun a3 a4 A B => l_Txt_layOut_13 kx n a3 a4 A B) kx m3 m4 ih hkx X15 Y16
            · skip
              refine j_ite (fun z35_4 => ?_) (fun z35_4 => ?_)
              · refine j_tabIn (z := 6) (t := 127) (off := 92) d_Txt_layOut_35 z35_4 (by decide) (by decide) (by decide) (by decide) ?_
                refine j_aload_n (i := 1) (x := 3) (q := 128) d_Txt_layOut_127 rfl rfl rfl ?_
                refine j_iload (i := 5) (x := v5) (q := 130) d_Txt_layOut_128 rfl rfl ?_
                refine j_ineg (q := 131) d_Txt_layOut_130 rfl ?_
                refine j_callVNv (a := 3) (S := []) (q := 134) [.int (-v5)] d_Txt_layOut_131 mw_Gro_addSky mv_Gro_addSky ml_Txt_56 ob_3 rfl rfl (c_Gro_addSky hK (-v5) X Y) ⟨⟨rfl, rfl⟩, ⟨Nat.le_of_ble_eq_true rfl, Nat.le_of_ble_eq_true rfl⟩, ⟨Nat.le_refl 0, Nat.le_refl 0⟩⟩ (Nat.le_of_ble_eq_true rfl) rfl (fun X17 Y18 => ?_)
                refine j_goto (q := 137) d_Txt_layOut_134 (by decide) ?_
                refine j_sub (L' := [some (.ref 1), some (.ref 3), some (.ref 16), some (.int m3), some (.int m4), none]) ⟨rfl, ⟨rfl, ⟨rfl, ⟨rfl, ⟨rfl, trivial⟩⟩⟩⟩⟩ ?_
                exact jb_Txt_layOut_137 hK (fun a3 a4 A B => l_Txt_layOut_13 kx n a3 a4 A B) kx m3 m4 ih hkx X17 Y18
              · skip
                refine j_tabOut (t := 137) d_Txt_layOut_35 (by have e2 := ne_toInt z35_0; have e3 := ne_toInt z35_1; have e4 := ne_toInt z35_2; have e5 := ne_toInt z35_3; have e6 := ne_toInt z35_4; rw [show ((2 : Int32)).toInt = 2 from by decide] at e2; rw [show ((3 : Int32)).toInt = 3 from by decide] at e3; rw [show ((4 : Int32)).toInt = 4 from by decide] at e4; rw [show ((5 : Int32)).toInt = 5 from by decide] at e5; rw [show ((6 : Int32)).toInt = 6 from by decide] at e6; omega) (by decide) ?_
                refine j_sub (L' := [some (.ref 1), some (.ref 3), some (.ref 16), some (.int m3), some (.int m4), none]) ⟨rfl, ⟨rfl, ⟨rfl, ⟨rfl, ⟨rfl, trivial⟩⟩⟩⟩⟩ ?_
                exact jb_Txt_layOut_137 hK (fun a3 a4 A B => l_Txt_layOut_13 kx n a3 a4 A B) kx m3 m4 ih hkx X Y
set_option maxRecDepth 4000 in
theorem c_Txt_layOut {K : KK} (hK : kOK K) (X : HI) (Y : HL) : CT K y_Txt_layOut prog_6_method_7_code 6 none rm_Txt_layOut [.ref 1, .ref 3, .ref 16] X Y (f_Txt_layOut X Y) := by
  refine ct_of hK (L := [some (.ref 1), some (.ref 3), some (.ref 16), none, none, none]) (by decide) ⟨rfl, ⟨rfl, ⟨rfl, trivial⟩⟩⟩ (Nat.le_of_ble_eq_true rfl) ?_
  unfold f_Txt_layOut
  refine j_aload_n (i := 1) (x := 3) (q := 1) d_Txt_layOut_0 rfl rfl rfl ?_
  refine j_callVNv (a := 3) (S := []) (q := 4) [] d_Txt_layOut_1 mw_Gro_clear mv_Gro_clear ml_Txt_31 ob_3 rfl rfl (c_Gro_clear hK X Y) ⟨⟨rfl, rfl⟩, ⟨Nat.le_of_ble_eq_true rfl, Nat.le_of_ble_eq_true rfl⟩, ⟨Nat.le_refl 0, Nat.le_refl 0⟩⟩ (Nat.le_of_ble_eq_true rfl) rfl (fun X1 Y2 => ?_)
  refine j_aload_n (i := 2) (x := 16) (q := 5) d_Txt_layOut_4 rfl rfl rfl ?_
  refine j_callVNv (a := 16) (S := []) (q := 8) [] d_Txt_layOut_5 mw_Pan_clear mv_Pan_clear ml_Txt_36 (ob_P isP_16) rfl rfl (c_Pan_clear hK 16 isP_16 X1 Y2) ⟨⟨rfl, rfl⟩, ⟨Nat.le_of_ble_eq_true rfl, Nat.le_of_ble_eq_true rfl⟩, ⟨Nat.le_refl 0, Nat.le_refl 0⟩⟩ (Nat.le_of_ble_eq_true rfl) rfl (fun X3 Y4 => ?_)
  refine j_iconst (v := 0) (q := 9) d_Txt_layOut_8 (by decide) rfl ?_
  refine j_istore_n (i := 3) (L' := [some (.ref 1), some (.ref 3), some (.ref 16), some (.int (0 : Int32)), none, none]) (q := 10) d_Txt_layOut_9 rfl (by decide) rfl rfl rfl ?_
  refine j_iconst (v := 0) (q := 11) d_Txt_layOut_10 (by decide) rfl ?_
  refine j_istore (i := 4) (L' := [some (.ref 1), some (.ref 3), some (.ref 16), some (.int (0 : Int32)), some (.int (0 : Int32)), none]) (q := 13) d_Txt_layOut_11 (by decide) rfl rfl rfl ?_
  refine j_sub (L' := [some (.ref 1), some (.ref 3), some (.ref 16), some (.int (0 : Int32)), some (.int (0 : Int32)), none]) ⟨rfl, ⟨rfl, ⟨rfl, ⟨rfl, ⟨rfl, trivial⟩⟩⟩⟩⟩ ?_
  refine jl_Txt_layOut_13 hK _ (fun w19 w20 X21 Y22 => ?_) 256 (0 : Int32) (0 : Int32) X3 Y4
  exact j_vret d_Txt_layOut_155
def f_Bri_write (x1 : Int32) (X : HI) (Y : HL) : Option Out :=
    (if x1 < 0 then
    (rI (-2 : Int32) X Y)
    else
    (if x1 ≤ (255 : Int32) then
    bi (f_Txt_append x1 X Y) (fun r3 X1 Y2 =>
    (rI r3 X1 Y2))
    else
    (rI (-2 : Int32) X Y)))
set_option maxRecDepth 4000 in
theorem c_Bri_write {K : KK} (hK : kOK K) (x1 : Int32) (X : HI) (Y : HL) : CT K y_Bri_write prog_1_method_2_code 2 (some .int) rm_Bri_write [.ref 0, .int x1] X Y (f_Bri_write x1 X Y) := by
  refine ct_of hK (L := [some (.ref 0), some (.int x1)]) (by decide) ⟨rfl, ⟨rfl, trivial⟩⟩ (Nat.le_of_ble_eq_true rfl) ?_
  unfold f_Bri_write
  refine j_iload_n (i := 1) (x := x1) (q := 1) d_Bri_write_0 rfl rfl rfl ?_
  refine j_if_lt (t := 11) (q := 4) d_Bri_write_1 (by decide) rfl ?_ ?_
  · refine j_bipush (v := -2) (q := 13) d_Bri_write_11 (by decide +kernel) rfl ?_
    exact j_iret d_Bri_write_13
  · refine j_iload_n (i := 1) (x := x1) (q := 5) d_Bri_write_4 rfl rfl rfl ?_
    refine j_sipush (v := 255) (q := 8) d_Bri_write_5 (by decide +kernel) rfl ?_
    refine j_icmp_le (t := 14) (q := 11) d_Bri_write_8 (by decide) rfl ?_ ?_
    · refine j_aload_n (i := 0) (x := 0) (q := 15) d_Bri_write_14 rfl rfl rfl ?_
      refine j_get (v := .ref 1) (q := 18) d_Bri_write_15 fk_Bri_10 fv_0_0 rfl ?_
      refine j_iload_n (i := 1) (x := x1) (q := 19) d_Bri_write_18 rfl rfl rfl ?_
      refine j_callVNi (a := 1) (S := []) (q := 22) [.int x1] d_Bri_write_19 mw_Txt_append mv_Txt_append ml_Bri_68 ob_1 rfl rfl (c_Txt_append hK x1 X Y) ⟨⟨rfl, rfl⟩, ⟨Nat.le_of_ble_eq_true rfl, Nat.le_of_ble_eq_true rfl⟩, ⟨Nat.le_refl 0, Nat.le_refl 0⟩⟩ (Nat.le_of_ble_eq_true rfl) rfl (fun r3 X1 Y2 => ?_)
      exact j_iret d_Bri_write_22
    · refine j_bipush (v := -2) (q := 13) d_Bri_write_11 (by decide +kernel) rfl ?_
      exact j_iret d_Bri_write_13
def f_Bri_wipe (X : HI) (Y : HL) : Option Out :=
    bi (f_Txt_clear X Y) (fun r3 X1 Y2 =>
    (rI r3 X1 Y2))
set_option maxRecDepth 4000 in
theorem c_Bri_wipe {K : KK} (hK : kOK K) (X : HI) (Y : HL) : CT K y_Bri_wipe prog_1_method_3_code 1 (some .int) rm_Bri_wipe [.ref 0] X Y (f_Bri_wipe X Y) := by
  refine ct_of hK (L := [some (.ref 0)]) (by decide) ⟨rfl, trivial⟩ (Nat.le_of_ble_eq_true rfl) ?_
  unfold f_Bri_wipe
  refine j_aload_n (i := 0) (x := 0) (q := 1) d_Bri_wipe_0 rfl rfl rfl ?_
  refine j_get (v := .ref 1) (q := 4) d_Bri_wipe_1 fk_Bri_10 fv_0_0 rfl ?_
  refine j_callVNi (a := 1) (S := []) (q := 7) [] d_Bri_wipe_4 mw_Txt_clear mv_Txt_clear ml_Bri_72 ob_1 rfl rfl (c_Txt_clear hK X Y) ⟨⟨rfl, rfl⟩, ⟨Nat.le_of_ble_eq_true rfl, Nat.le_of_ble_eq_true rfl⟩, ⟨Nat.le_refl 0, Nat.le_refl 0⟩⟩ (Nat.le_of_ble_eq_true rfl) rfl (fun r3 X1 Y2 => ?_)
  exact j_iret d_Bri_wipe_7
def f_Bri_fault (X : HI) (Y : HL) : Option Out :=
    bi (f_Txt_firstFault X Y) (fun r3 X1 Y2 =>
    (rI r3 X1 Y2))
set_option maxRecDepth 4000 in
theorem c_Bri_fault {K : KK} (hK : kOK K) (X : HI) (Y : HL) : CT K y_Bri_fault prog_1_method_4_code 1 (some .int) rm_Bri_fault [.ref 0] X Y (f_Bri_fault X Y) := by
  refine ct_of hK (L := [some (.ref 0)]) (by decide) ⟨rfl, trivial⟩ (Nat.le_of_ble_eq_true rfl) ?_
  unfold f_Bri_fault
  refine j_aload_n (i := 0) (x := 0) (q := 1) d_Bri_fault_0 rfl rfl rfl ?_
  refine j_get (v := .ref 1) (q := 4) d_Bri_fault_1 fk_Bri_10 fv_0_0 rfl ?_
  refine j_callVNi (a := 1) (S := []) (q := 7) [] d_Bri_fault_4 mw_Txt_firstFault mv_Txt_firstFault ml_Bri_76 ob_1 rfl rfl (c_Txt_firstFault hK X Y) ⟨⟨rfl, rfl⟩, ⟨Nat.le_of_ble_eq_true rfl, Nat.le_of_ble_eq_true rfl⟩, ⟨Nat.le_refl 0, Nat.le_refl 0⟩⟩ (Nat.le_of_ble_eq_true rfl) rfl (fun r3 X1 Y2 => ?_)
  exact j_iret d_Bri_fault_7
def l_Bri_marsh_39 (kx : Int32 → HI → HL → Option Out) : Nat → Int32 → HI → HL → Option Out
  | 0, _, _, _ => none
  | n + 1, m1, X, Y =>
    (if (2 : Int32) ≤ m1 then
    (kx m1 X Y)
    else
    wr (ixb m1 2) (up X 13 m1.toNatClampNeg (vp_nar .boolean (0 : Int32))) (fun X8 =>
    (l_Bri_marsh_39 kx n (m1 + (1 : Int32)) X8 Y)))
def f_Bri_marsh (X : HI) (Y : HL) : Option Out :=
    bi (f_Txt_firstFault X Y) (fun r3 X1 Y2 =>
    (if r3 = (-9 : Int32) then
    bv (f_Txt_layOut X1 Y2) (fun X4 Y5 =>
    bv (f_Act_clear X4 Y5) (fun X6 Y7 =>
    (l_Bri_marsh_39 (fun w9 X10 Y11 =>
    (rI (((10 : Int32) * (X10 3 2)) + (X10 3 3)) X10 Y11)) 256 (0 : Int32) X6 Y7)))
    else
    (rI (-3 : Int32) X1 Y2)))
set_option maxRecDepth 4000 in
theorem jl_Bri_marsh_39 {K : KK} (hK : kOK K) (kx : Int32 → HI → HL → Option Out) (hkx : ∀ (m1 : Int32) (X : HI) (Y : HL), JO K "BrinePans" prog_1_method_5_code 2 (some .int) rm_Bri_marsh 0 0 (MZ K) 57 [some (.ref 0), none] [] X Y (kx m1 X Y)) : ∀ (n : Nat) (m1 : Int32) (X : HI) (Y : HL), JO K "BrinePans" prog_1_method_5_code 2 (some .int) rm_Bri_marsh 0 0 (MZ K) 39 [some (.ref 0), some (.int m1)] [] X Y (l_Bri_marsh_39 kx n m1 X Y) := by
  intro n
  induction n with
  | zero =>
    intro m1 X Y
    rw [l_Bri_marsh_39]
    exact j_none
  | succ n ih =>
    intro m1 X Y
    rw [l_Bri_marsh_39]
    refine j_iload_n (i := 1) (x := m1) (q := 40) d_Bri_marsh_39 rfl rfl rfl ?_
    refine j_iconst (v := 2) (q := 41) d_Bri_marsh_40 (by decide) rfl ?_
    refine j_icmp_ge (t := 57) (q := 44) d_Bri_marsh_41 (by decide) rfl ?_ ?_
    · refine j_sub (L' := [some (.ref 0), none]) ⟨rfl, trivial⟩ ?_
      exact hkx m1 X Y
    · refine j_aload_n (i := 0) (x := 0) (q := 45) d_Bri_marsh_44 rfl rfl rfl ?_
      refine j_get (v := .ref 13) (q := 48) d_Bri_marsh_45 fk_Bri_53 fv_0_7 rfl ?_
      refine j_iload_n (i := 1) (x := m1) (q := 49) d_Bri_marsh_48 rfl rfl rfl ?_
      refine j_iconst (v := 0) (q := 50) d_Bri_marsh_49 (by decide) rfl ?_
      refine j_zast (q := 51) d_Bri_marsh_50 az_13 rfl (fun X8 => ?_)
      refine j_iinc (i := 1) (x := m1) (d := 1) (L' := [some (.ref 0), some (.int (m1 + (1 : Int32)))]) (q := 54) d_Bri_marsh_51 rfl (by decide) (by decide) rfl rfl rfl ?_
      refine j_goto (q := 39) d_Bri_marsh_54 (by decide) ?_
      refine j_sub (L' := [some (.ref 0), some (.int (m1 + (1 : Int32)))]) ⟨rfl, ⟨rfl, trivial⟩⟩ ?_
      exact ih (m1 + (1 : Int32)) X8 Y
set_option maxRecDepth 4000 in
theorem c_Bri_marsh {K : KK} (hK : kOK K) (X : HI) (Y : HL) : CT K y_Bri_marsh prog_1_method_5_code 2 (some .int) rm_Bri_marsh [.ref 0] X Y (f_Bri_marsh X Y) := by
  refine ct_of hK (L := [some (.ref 0), none]) (by decide) ⟨rfl, trivial⟩ (Nat.le_of_ble_eq_true rfl) ?_
  unfold f_Bri_marsh
  refine j_aload_n (i := 0) (x := 0) (q := 1) d_Bri_marsh_0 rfl rfl rfl ?_
  refine j_get (v := .ref 1) (q := 4) d_Bri_marsh_1 fk_Bri_10 fv_0_0 rfl ?_
  refine j_callVNi (a := 1) (S := []) (q := 7) [] d_Bri_marsh_4 mw_Txt_firstFault mv_Txt_firstFault ml_Bri_76 ob_1 rfl rfl (c_Txt_firstFault hK X Y) ⟨⟨rfl, rfl⟩, ⟨Nat.le_of_ble_eq_true rfl, Nat.le_of_ble_eq_true rfl⟩, ⟨Nat.le_refl 0, Nat.le_refl 0⟩⟩ (Nat.le_of_ble_eq_true rfl) rfl (fun r3 X1 Y2 => ?_)
  refine j_bipush (v := -9) (q := 9) d_Bri_marsh_7 (by decide +kernel) rfl ?_
  refine j_icmp_eq (t := 15) (q := 12) d_Bri_marsh_9 (by decide) rfl ?_ ?_
  · refine j_aload_n (i := 0) (x := 0) (q := 16) d_Bri_marsh_15 rfl rfl rfl ?_
    refine j_get (v := .ref 1) (q := 19) d_Bri_marsh_16 fk_Bri_10 fv_0_0 rfl ?_
    refine j_aload_n (i := 0) (x := 0) (q := 20) d_Bri_marsh_19 rfl rfl rfl ?_
    refine j_get (v := .ref 3) (q := 23) d_Bri_marsh_20 fk_Bri_19 fv_0_1 rfl ?_
    refine j_aload_n (i := 0) (x := 0) (q := 24) d_Bri_marsh_23 rfl rfl rfl ?_
    refine j_get (v := .ref 16) (q := 27) d_Bri_marsh_24 fk_Bri_28 fv_0_2 rfl ?_
    refine j_callVNv (a := 1) (S := []) (q := 30) [.ref 3, .ref 16] d_Bri_marsh_27 mw_Txt_layOut mv_Txt_layOut ml_Bri_79 ob_1 rfl rfl (c_Txt_layOut hK X1 Y2) ⟨⟨rfl, rfl⟩, ⟨Nat.le_of_ble_eq_true rfl, Nat.le_of_ble_eq_true rfl⟩, ⟨Nat.le_refl 0, Nat.le_refl 0⟩⟩ (Nat.le_of_ble_eq_true rfl) rfl (fun X4 Y5 => ?_)
    refine j_aload_n (i := 0) (x := 0) (q := 31) d_Bri_marsh_30 rfl rfl rfl ?_
    refine j_get (v := .ref 6) (q := 34) d_Bri_marsh_31 fk_Bri_38 fv_0_4 rfl ?_
    refine j_callVNv (a := 6) (S := []) (q := 37) [] d_Bri_marsh_34 mw_Act_clear mv_Act_clear ml_Bri_83 ob_6 rfl rfl (c_Act_clear hK X4 Y5) ⟨⟨rfl, rfl⟩, ⟨Nat.le_of_ble_eq_true rfl, Nat.le_of_ble_eq_true rfl⟩, ⟨Nat.le_refl 0, Nat.le_refl 0⟩⟩ (Nat.le_of_ble_eq_true rfl) rfl (fun X6 Y7 => ?_)
    refine j_iconst (v := 0) (q := 38) d_Bri_marsh_37 (by decide) rfl ?_
    refine j_istore_n (i := 1) (L' := [some (.ref 0), some (.int (0 : Int32))]) (q := 39) d_Bri_marsh_38 rfl (by decide) rfl rfl rfl ?_
    refine j_sub (L' := [some (.ref 0), some (.int (0 : Int32))]) ⟨rfl, ⟨rfl, trivial⟩⟩ ?_
    refine jl_Bri_marsh_39 hK _ (fun w9 X10 Y11 => ?_) 256 (0 : Int32) X6 Y7
    refine j_bipush (v := 10) (q := 59) d_Bri_marsh_57 (by decide +kernel) rfl ?_
    refine j_aload_n (i := 0) (x := 0) (q := 60) d_Bri_marsh_59 rfl rfl rfl ?_
    refine j_get (v := .ref 3) (q := 63) d_Bri_marsh_60 fk_Bri_19 fv_0_1 rfl ?_
    refine j_get (v := .int (X10 3 2)) (q := 66) d_Bri_marsh_63 fk_Bri_85 fv_3_2 rfl ?_
    refine j_imul (q := 67) d_Bri_marsh_66 rfl ?_
    refine j_aload_n (i := 0) (x := 0) (q := 68) d_Bri_marsh_67 rfl rfl rfl ?_
    refine j_get (v := .ref 3) (q := 71) d_Bri_marsh_68 fk_Bri_19 fv_0_1 rfl ?_
    refine j_get (v := .int (X10 3 3)) (q := 74) d_Bri_marsh_71 fk_Bri_89 fv_3_3 rfl ?_
    refine j_iadd (q := 75) d_Bri_marsh_74 rfl ?_
    exact j_iret d_Bri_marsh_75
  · refine j_bipush (v := -3) (q := 14) d_Bri_marsh_12 (by decide +kernel) rfl ?_
    exact j_iret d_Bri_marsh_14
def f_Bri_about (x1 : Int32) (X : HI) (Y : HL) : Option Out :=
    (if x1 = (0 : Int32) then
    (rI (X 3 2) X Y)
    else
    (if x1 = (1 : Int32) then
    (rI (X 3 3) X Y)
    else
    (if x1 = (2 : Int32) then
    (rI (X 16 5) X Y)
    else
    (if x1 = (3 : Int32) then
    bi (f_Gro_skyOf (X 16 5) X Y) (fun r3 X1 Y2 =>
    (rI r3 X1 Y2))
    else
    (if x1 = (4 : Int32) then
    (rI (X 16 3) X Y)
    else
    (if x1 = (5 : Int32) then
    (rI (X 16 4) X Y)
    else
    (if x1 = (6 : Int32) then
    bi (f_Pan_sumOf 16 17 X Y) (fun r6 X4 Y5 =>
    (rI r6 X4 Y5))
    else
    (if x1 = (7 : Int32) then
    bi (f_Pan_sumOf 16 18 X Y) (fun r9 X7 Y8 =>
    (rI r9 X7 Y8))
    else
    (if x1 = (8 : Int32) then
    bi (f_Pan_crustOfAll 16 X Y) (fun r12 X10 Y11 =>
    (rI r12 X10 Y11))
    else
    (if x1 = (9 : Int32) then
    bi (f_Pan_rakeable 16 X Y) (fun r15 X13 Y14 =>
    (rI r15 X13 Y14))
    else
    (if x1 = (10 : Int32) then
    (rI (X 6 2) X Y)
    else
    (if x1 = (11 : Int32) then
    (rI (X 8 3) X Y)
    else
    (if x1 = (12 : Int32) then
    (rI (X 1 1) X Y)
    else
    (rI (-2 : Int32) X Y))))))))))))))
set_option maxRecDepth 4000 in
theorem c_Bri_about {K : KK} (hK : kOK K) (x1 : Int32) (X : HI) (Y : HL) : CT K y_Bri_about prog_1_method_6_code 2 (some .int) rm_Bri_about [.ref 0, .int x1] X Y (f_Bri_about x1 X Y) := by
  refine ct_of hK (L := [some (.ref 0), some (.int x1)]) (by decide) ⟨rfl, ⟨rfl, trivial⟩⟩ (Nat.le_of_ble_eq_true rfl) ?_
  unfold f_Bri_about
  refine j_iload_n (i := 1) (x := x1) (q := 1) d_Bri_about_0 rfl rfl rfl ?_
  refine j_ite (fun z1_0 => ?_) (fun z1_0 => ?_)
  · refine j_tabIn (z := 0) (t := 68) (off := 67) d_Bri_about_1 z1_0 (by decide) (by decide) (by decide) (by decide) ?_
    refine j_aload_n (i := 0) (x := 0) (q := 69) d_Bri_about_68 rfl rfl rfl ?_
    refine j_get (v := .ref 3) (q := 72) d_Bri_about_69 fk_Bri_19 fv_0_1 rfl ?_
    refine j_get (v := .int (X 3 2)) (q := 75) d_Bri_about_72 fk_Bri_85 fv_3_2 rfl ?_
    exact j_iret d_Bri_about_75
  · skip
    refine j_ite (fun z1_1 => ?_) (fun z1_1 => ?_)
    · refine j_tabIn (z := 1) (t := 76) (off := 75) d_Bri_about_1 z1_1 (by decide) (by decide) (by decide) (by decide) ?_
      refine j_aload_n (i := 0) (x := 0) (q := 77) d_Bri_about_76 rfl rfl rfl ?_
      refine j_get (v := .ref 3) (q := 80) d_Bri_about_77 fk_Bri_19 fv_0_1 rfl ?_
      refine j_get (v := .int (X 3 3)) (q := 83) d_Bri_about_80 fk_Bri_89 fv_3_3 rfl ?_
      exact j_iret d_Bri_about_83
    · skip
      refine j_ite (fun z1_2 => ?_) (fun z1_2 => ?_)
      · refine j_tabIn (z := 2) (t := 84) (off := 83) d_Bri_about_1 z1_2 (by decide) (by decide) (by decide) (by decide) ?_
        refine j_aload_n (i := 0) (x := 0) (q := 85) d_Bri_about_84 rfl rfl rfl ?_
        refine j_get (v := .ref 16) (q := 88) d_Bri_about_85 fk_Bri_28 fv_0_2 rfl ?_
        refine j_get (v := .int (X 16 5)) (q := 91) d_Bri_about_88 fk_Bri_92 (fv_P5 isP_16) rfl ?_
        exact j_iret d_Bri_about_91
      · skip
        refine j_ite (fun z1_3 => ?_) (fun z1_3 => ?_)
        · refine j_tabIn (z := 3) (t := 92) (off := 91) d_Bri_about_1 z1_3 (by decide) (by decide) (by decide) (by decide) ?_
          refine j_aload_n (i := 0) (x := 0) (q := 93) d_Bri_about_92 rfl rfl rfl ?_
          refine j_get (v := .ref 3) (q := 96) d_Bri_about_93 fk_Bri_19 fv_0_1 rfl ?_
          refine j_aload_n (i := 0) (x := 0) (q := 97) d_Bri_about_96 rfl rfl rfl ?_
          refine j_get (v := .ref 16) (q := 100) d_Bri_about_97 fk_Bri_28 fv_0_2 rfl ?_
          refine j_get (v := .int (X 16 5)) (q := 103) d_Bri_about_100 fk_Bri_92 (fv_P5 isP_16) rfl ?_
          refine j_callVNi (a := 3) (S := []) (q := 106) [.int (X 16 5)] d_Bri_about_103 mw_Gro_skyOf mv_Gro_skyOf ml_Bri_95 ob_3 rfl rfl (c_Gro_skyOf hK (X 16 5) X Y) ⟨⟨rfl, rfl⟩, ⟨Nat.le_of_ble_eq_true rfl, Nat.le_of_ble_eq_true rfl⟩, ⟨Nat.le_refl 0, Nat.le_refl 0⟩⟩ (Nat.le_of_ble_eq_true rfl) rfl (fun r3 X1 Y2 => ?_)
          exact j_iret d_Bri_about_106
        · skip
          refine j_ite (fun z1_4 => ?_) (fun z1_4 => ?_)
          · refine j_tabIn (z := 4) (t := 107) (off := 106) d_Bri_about_1 z1_4 (by decide) (by decide) (by decide) (by decide) ?_
            refine j_aload_n (i := 0) (x := 0) (q := 108) d_Bri_about_107 rfl rfl rfl ?_
            refine j_get (v := .ref 16) (q := 111) d_Bri_about_108 fk_Bri_28 fv_0_2 rfl ?_
            refine j_get (v := .int (X 16 3)) (q := 114) d_Bri_about_111 fk_Bri_98 (fv_P3 isP_16) rfl ?_
            exact j_iret d_Bri_about_114
          · skip
            refine j_ite (fun z1_5 => ?_) (fun z1_5 => ?_)
            · refine j_tabIn (z := 5) (t := 115) (off := 114) d_Bri_about_1 z1_5 (by decide) (by decide) (by decide) (by decide) ?_
              refine j_aload_n (i := 0) (x := 0) (q := 116) d_Bri_about_115 rfl rfl rfl ?_
              refine j_get (v := .ref 16) (q := 119) d_Bri_about_116 fk_Bri_28 fv_0_2 rfl ?_
              refine j_get (v := .int (X 16 4)) (q := 122) d_Bri_about_119 fk_Bri_101 (fv_P4 isP_16) rfl ?_
              exact j_iret d_Bri_about_122
            · skip
              refine j_ite (fun z1_6 => ?_) (fun z1_6 => ?_)
              · refine j_tabIn (z := 6) (t := 123) (off := 122) d_Bri_about_1 z1_6 (by decide) (by decide) (by decide) (by decide) ?_
                refine j_aload_n (i := 0) (x := 0) (q := 124) d_Bri_about_123 rfl rfl rfl ?_
                refine j_get (v := .ref 16) (q := 127) d_Bri_about_124 fk_Bri_28 fv_0_2 rfl ?_
                refine j_aload_n (i := 0) (x := 0) (q := 128) d_Bri_about_127 rfl rfl rfl ?_
                refine j_get (v := .ref 16) (q := 131) d_Bri_about_128 fk_Bri_28 fv_0_2 rfl ?_
                refine j_get (v := .ref 17) (q := 134) d_Bri_about_131 fk_Bri_104 (fv_P1 isP_16) rfl ?_
                refine j_callVNi (a := 16) (S := []) (q := 137) [.ref 17] d_Bri_about_134 mw_Pan_sumOf mv_Pan_sumOf ml_Bri_107 (ob_P isP_16) rfl rfl (c_Pan_sumOf hK 16 17 isP_16 ai_17 X Y) ⟨⟨rfl, rfl⟩, ⟨Nat.le_of_ble_eq_true rfl, Nat.le_of_ble_eq_true rfl⟩, ⟨Nat.le_refl 0, Nat.le_refl 0⟩⟩ (Nat.le_of_ble_eq_true rfl) rfl (fun r6 X4 Y5 => ?_)
                exact j_iret d_Bri_about_137
              · skip
                refine j_ite (fun z1_7 => ?_) (fun z1_7 => ?_)
                · refine j_tabIn (z := 7) (t := 138) (off := 137) d_Bri_about_1 z1_7 (by decide) (by decide) (by decide) (by decide) ?_
                  refine j_aload_n (i := 0) (x := 0) (q := 139) d_Bri_about_138 rfl rfl rfl ?_
                  refine j_get (v := .ref 16) (q := 142) d_Bri_about_139 fk_Bri_28 fv_0_2 rfl ?_
                  refine j_aload_n (i := 0) (x := 0) (q := 143) d_Bri_about_142 rfl rfl rfl ?_
                  refine j_get (v := .ref 16) (q := 146) d_Bri_about_143 fk_Bri_28 fv_0_2 rfl ?_
                  refine j_get (v := .ref 18) (q := 149) d_Bri_about_146 fk_Bri_111 (fv_P2 isP_16) rfl ?_
                  refine j_callVNi (a := 16) (S := []) (q := 152) [.ref 18] d_Bri_about_149 mw_Pan_sumOf mv_Pan_sumOf ml_Bri_107 (ob_P isP_16) rfl rfl (c_Pan_sumOf hK 16 18 isP_16 ai_18 X Y) ⟨⟨rfl, rfl⟩, ⟨Nat.le_of_ble_eq_true rfl, Nat.le_of_ble_eq_true rfl⟩, ⟨Nat.le_refl 0, Nat.le_refl 0⟩⟩ (Nat.le_of_ble_eq_true rfl) rfl (fun r9 X7 Y8 => ?_)
                  exact j_iret d_Bri_about_152
                · skip
                  refine j_ite (fun z1_8 => ?_) (fun z1_8 => ?_)
                  · refine j_tabIn (z := 8) (t := 153) (off := 152) d_Bri_about_1 z1_8 (by decide) (by decide) (by decide) (by decide) ?_
                    refine j_aload_n (i := 0) (x := 0) (q := 154) d_Bri_about_153 rfl rfl rfl ?_
                    refine j_get (v := .ref 16) (q := 157) d_Bri_about_154 fk_Bri_28 fv_0_2 rfl ?_
                    refine j_callVNi (a := 16) (S := []) (q := 160) [] d_Bri_about_157 mw_Pan_crustOfAll mv_Pan_crustOfAll ml_Bri_114 (ob_P isP_16) rfl rfl (c_Pan_crustOfAll hK 16 isP_16 X Y) ⟨⟨rfl, rfl⟩, ⟨Nat.le_of_ble_eq_true rfl, Nat.le_of_ble_eq_true rfl⟩, ⟨Nat.le_refl 0, Nat.le_refl 0⟩⟩ (Nat.le_of_ble_eq_true rfl) rfl (fun r12 X10 Y11 => ?_)
                    exact j_iret d_Bri_about_160
                  · skip
                    refine j_ite (fun z1_9 => ?_) (fun z1_9 => ?_)
                    · refine j_tabIn (z := 9) (t := 161) (off := 160) d_Bri_about_1 z1_9 (by decide) (by decide) (by decide) (by decide) ?_
                      refine j_aload_n (i := 0) (x := 0) (q := 162) d_Bri_about_161 rfl rfl rfl ?_
                      refine j_get (v := .ref 16) (q := 165) d_Bri_about_162 fk_Bri_28 fv_0_2 rfl ?_
                      refine j_callVNi (a := 16) (S := []) (q := 168) [] d_Bri_about_165 mw_Pan_rakeable mv_Pan_rakeable ml_Bri_117 (ob_P isP_16) rfl rfl (c_Pan_rakeable hK 16 isP_16 X Y) ⟨⟨rfl, rfl⟩, ⟨Nat.le_of_ble_eq_true rfl, Nat.le_of_ble_eq_true rfl⟩, ⟨Nat.le_refl 0, Nat.le_refl 0⟩⟩ (Nat.le_of_ble_eq_true rfl) rfl (fun r15 X13 Y14 => ?_)
                      exact j_iret d_Bri_about_168
                    · skip
                      refine j_ite (fun z1_10 => ?_) (fun z1_10 => ?_)
                      · refine j_tabIn (z := 10) (t := 169) (off := 168) d_Bri_about_1 z1_10 (by decide) (by decide) (by decide) (by decide) ?_
                        refine j_aload_n (i := 0) (x := 0) (q := 170) d_Bri_about_169 rfl rfl rfl ?_
                        refine j_get (v := .ref 6) (q := 173) d_Bri_about_170 fk_Bri_38 fv_0_4 rfl ?_
                        refine j_get (v := .int (X 6 2)) (q := 176) d_Bri_about_173 fk_Bri_120 fv_6_2 rfl ?_
                        exact j_iret d_Bri_about_176
                      · skip
                        refine j_ite (fun z1_11 => ?_) (fun z1_11 => ?_)
                        · refine j_tabIn (z := 11) (t := 177) (off := 176) d_Bri_about_1 z1_11 (by decide) (by decide) (by decide) (by decide) ?_
                          refine j_aload_n (i := 0) (x := 0) (q := 178) d_Bri_about_177 rfl rfl rfl ?_
                          refine j_get (v := .ref 8) (q := 181) d_Bri_about_178 fk_Bri_45 fv_0_5 rfl ?_
                          refine j_get (v := .int (X 8 3)) (q := 184) d_Bri_about_181 fk_Bri_123 fv_8_3 rfl ?_
                          exact j_iret d_Bri_about_184
                        · skip
                          refine j_ite (fun z1_12 => ?_) (fun z1_12 => ?_)
                          · refine j_tabIn (z := 12) (t := 185) (off := 184) d_Bri_about_1 z1_12 (by decide) (by decide) (by decide) (by decide) ?_
                            refine j_aload_n (i := 0) (x := 0) (q := 186) d_Bri_about_185 rfl rfl rfl ?_
                            refine j_get (v := .ref 1) (q := 189) d_Bri_about_186 fk_Bri_10 fv_0_0 rfl ?_
                            refine j_get (v := .int (X 1 1)) (q := 192) d_Bri_about_189 fk_Bri_124 fv_1_1 rfl ?_
                            exact j_iret d_Bri_about_192
                          · skip
                            refine j_tabOut (t := 193) d_Bri_about_1 (tab_out 12 (fun j hj => by rcases (show j = 0 ∨ j = 1 ∨ j = 2 ∨ j = 3 ∨ j = 4 ∨ j = 5 ∨ j = 6 ∨ j = 7 ∨ j = 8 ∨ j = 9 ∨ j = 10 ∨ j = 11 ∨ j = 12 by omega) with rfl | rfl | rfl | rfl | rfl | rfl | rfl | rfl | rfl | rfl | rfl | rfl | rfl <;> first | exact ne_toInt z1_0 | exact ne_toInt z1_1 | exact ne_toInt z1_2 | exact ne_toInt z1_3 | exact ne_toInt z1_4 | exact ne_toInt z1_5 | exact ne_toInt z1_6 | exact ne_toInt z1_7 | exact ne_toInt z1_8 | exact ne_toInt z1_9 | exact ne_toInt z1_10 | exact ne_toInt z1_11 | exact ne_toInt z1_12)) (by decide) ?_
                            refine j_bipush (v := -2) (q := 195) d_Bri_about_193 (by decide +kernel) rfl ?_
                            exact j_iret d_Bri_about_195
def f_Bri_pan (x1 : Int32) (x2 : Int32) (X : HI) (Y : HL) : Option Out :=
    bi (f_Gro_hasPan x1 X Y) (fun r3 X1 Y2 =>
    (if r3 = 0 then
    (rI (-1 : Int32) X1 Y2)
    else
    (if x2 = (0 : Int32) then
    gd (ixb x1 6) (
    (rI (X1 4 x1.toNatClampNeg) X1 Y2))
    else
    (if x2 = (1 : Int32) then
    gd (ixb x1 6) (
    (rI (X1 17 x1.toNatClampNeg) X1 Y2))
    else
    (if x2 = (2 : Int32) then
    gd (ixb x1 6) (
    (rI (X1 18 x1.toNatClampNeg) X1 Y2))
    else
    (if x2 = (3 : Int32) then
    bi (f_Pan_brineOf 16 x1 X1 Y2) (fun r6 X4 Y5 =>
    (rI r6 X4 Y5))
    else
    (if x2 = (4 : Int32) then
    bi (f_Pan_crustOf 16 x1 X1 Y2) (fun r9 X7 Y8 =>
    (rI r9 X7 Y8))
    else
    (if x2 = (5 : Int32) then
    bi (f_Pan_roomOf 16 x1 X1 Y2) (fun r12 X10 Y11 =>
    (rI r12 X10 Y11))
    else
    (rI (-2 : Int32) X1 Y2)))))))))
set_option maxRecDepth 4000 in
theorem c_Bri_pan {K : KK} (hK : kOK K) (x1 : Int32) (x2 : Int32) (X : HI) (Y : HL) : CT K y_Bri_pan prog_1_method_7_code 3 (some .int) rm_Bri_pan [.ref 0, .int x1, .int x2] X Y (f_Bri_pan x1 x2 X Y) := by
  refine ct_of hK (L := [some (.ref 0), some (.int x1), some (.int x2)]) (by decide) ⟨rfl, ⟨rfl, ⟨rfl, trivial⟩⟩⟩ (Nat.le_of_ble_eq_true rfl) ?_
  unfold f_Bri_pan
  refine j_aload_n (i := 0) (x := 0) (q := 1) d_Bri_pan_0 rfl rfl rfl ?_
  refine j_get (v := .ref 3) (q := 4) d_Bri_pan_1 fk_Bri_19 fv_0_1 rfl ?_
  refine j_iload_n (i := 1) (x := x1) (q := 5) d_Bri_pan_4 rfl rfl rfl ?_
  refine j_callVNi (a := 3) (S := []) (q := 8) [.int x1] d_Bri_pan_5 mw_Gro_hasPan mv_Gro_hasPan ml_Bri_127 ob_3 rfl rfl (c_Gro_hasPan hK x1 X Y) ⟨⟨rfl, rfl⟩, ⟨Nat.le_of_ble_eq_true rfl, Nat.le_of_ble_eq_true rfl⟩, ⟨Nat.le_refl 0, Nat.le_refl 0⟩⟩ (Nat.le_of_ble_eq_true rfl) rfl (fun r3 X1 Y2 => ?_)
  refine j_if_ne (t := 13) (q := 11) d_Bri_pan_8 (by decide) rfl ?_ ?_
  · refine j_iload_n (i := 2) (x := x2) (q := 14) d_Bri_pan_13 rfl rfl rfl ?_
    refine j_ite (fun z14_0 => ?_) (fun z14_0 => ?_)
    · refine j_tabIn (z := 0) (t := 52) (off := 38) d_Bri_pan_14 z14_0 (by decide) (by decide) (by decide) (by decide) ?_
      refine j_aload_n (i := 0) (x := 0) (q := 53) d_Bri_pan_52 rfl rfl rfl ?_
      refine j_get (v := .ref 3) (q := 56) d_Bri_pan_53 fk_Bri_19 fv_0_1 rfl ?_
      refine j_get (v := .ref 4) (q := 59) d_Bri_pan_56 fk_Bri_131 fv_3_0 rfl ?_
      refine j_iload_n (i := 1) (x := x1) (q := 60) d_Bri_pan_59 rfl rfl rfl ?_
      refine j_iald (q := 61) d_Bri_pan_60 ai_4 rfl ?_
      exact j_iret d_Bri_pan_61
    · skip
      refine j_ite (fun z14_1 => ?_) (fun z14_1 => ?_)
      · refine j_tabIn (z := 1) (t := 62) (off := 48) d_Bri_pan_14 z14_1 (by decide) (by decide) (by decide) (by decide) ?_
        refine j_aload_n (i := 0) (x := 0) (q := 63) d_Bri_pan_62 rfl rfl rfl ?_
        refine j_get (v := .ref 16) (q := 66) d_Bri_pan_63 fk_Bri_28 fv_0_2 rfl ?_
        refine j_get (v := .ref 17) (q := 69) d_Bri_pan_66 fk_Bri_104 (fv_P1 isP_16) rfl ?_
        refine j_iload_n (i := 1) (x := x1) (q := 70) d_Bri_pan_69 rfl rfl rfl ?_
        refine j_iald (q := 71) d_Bri_pan_70 ai_17 rfl ?_
        exact j_iret d_Bri_pan_71
      · skip
        refine j_ite (fun z14_2 => ?_) (fun z14_2 => ?_)
        · refine j_tabIn (z := 2) (t := 72) (off := 58) d_Bri_pan_14 z14_2 (by decide) (by decide) (by decide) (by decide) ?_
          refine j_aload_n (i := 0) (x := 0) (q := 73) d_Bri_pan_72 rfl rfl rfl ?_
          refine j_get (v := .ref 16) (q := 76) d_Bri_pan_73 fk_Bri_28 fv_0_2 rfl ?_
          refine j_get (v := .ref 18) (q := 79) d_Bri_pan_76 fk_Bri_111 (fv_P2 isP_16) rfl ?_
          refine j_iload_n (i := 1) (x := x1) (q := 80) d_Bri_pan_79 rfl rfl rfl ?_
          refine j_iald (q := 81) d_Bri_pan_80 ai_18 rfl ?_
          exact j_iret d_Bri_pan_81
        · skip
          refine j_ite (fun z14_3 => ?_) (fun z14_3 => ?_)
          · refine j_tabIn (z := 3) (t := 82) (off := 68) d_Bri_pan_14 z14_3 (by decide) (by decide) (by decide) (by decide) ?_
            refine j_aload_n (i := 0) (x := 0) (q := 83) d_Bri_pan_82 rfl rfl rfl ?_
            refine j_get (v := .ref 16) (q := 86) d_Bri_pan_83 fk_Bri_28 fv_0_2 rfl ?_
            refine j_iload_n (i := 1) (x := x1) (q := 87) d_Bri_pan_86 rfl rfl rfl ?_
            refine j_callVNi (a := 16) (S := []) (q := 90) [.int x1] d_Bri_pan_87 mw_Pan_brineOf mv_Pan_brineOf ml_Bri_134 (ob_P isP_16) rfl rfl (c_Pan_brineOf hK 16 isP_16 x1 X1 Y2) ⟨⟨rfl, rfl⟩, ⟨Nat.le_of_ble_eq_true rfl, Nat.le_of_ble_eq_true rfl⟩, ⟨Nat.le_refl 0, Nat.le_refl 0⟩⟩ (Nat.le_of_ble_eq_true rfl) rfl (fun r6 X4 Y5 => ?_)
            exact j_iret d_Bri_pan_90
          · skip
            refine j_ite (fun z14_4 => ?_) (fun z14_4 => ?_)
            · refine j_tabIn (z := 4) (t := 91) (off := 77) d_Bri_pan_14 z14_4 (by decide) (by decide) (by decide) (by decide) ?_
              refine j_aload_n (i := 0) (x := 0) (q := 92) d_Bri_pan_91 rfl rfl rfl ?_
              refine j_get (v := .ref 16) (q := 95) d_Bri_pan_92 fk_Bri_28 fv_0_2 rfl ?_
              refine j_iload_n (i := 1) (x := x1) (q := 96) d_Bri_pan_95 rfl rfl rfl ?_
              refine j_callVNi (a := 16) (S := []) (q := 99) [.int x1] d_Bri_pan_96 mw_Pan_crustOf mv_Pan_crustOf ml_Bri_137 (ob_P isP_16) rfl rfl (c_Pan_crustOf hK 16 isP_16 x1 X1 Y2) ⟨⟨rfl, rfl⟩, ⟨Nat.le_of_ble_eq_true rfl, Nat.le_of_ble_eq_true rfl⟩, ⟨Nat.le_refl 0, Nat.le_refl 0⟩⟩ (Nat.le_of_ble_eq_true rfl) rfl (fun r9 X7 Y8 => ?_)
              exact j_iret d_Bri_pan_99
            · skip
              refine j_ite (fun z14_5 => ?_) (fun z14_5 => ?_)
              · refine j_tabIn (z := 5) (t := 100) (off := 86) d_Bri_pan_14 z14_5 (by decide) (by decide) (by decide) (by decide) ?_
                refine j_aload_n (i := 0) (x := 0) (q := 101) d_Bri_pan_100 rfl rfl rfl ?_
                refine j_get (v := .ref 16) (q := 104) d_Bri_pan_101 fk_Bri_28 fv_0_2 rfl ?_
                refine j_iload_n (i := 1) (x := x1) (q := 105) d_Bri_pan_104 rfl rfl rfl ?_
                refine j_callVNi (a := 16) (S := []) (q := 108) [.int x1] d_Bri_pan_105 mw_Pan_roomOf mv_Pan_roomOf ml_Bri_140 (ob_P isP_16) rfl rfl (c_Pan_roomOf hK 16 isP_16 x1 X1 Y2) ⟨⟨rfl, rfl⟩, ⟨Nat.le_of_ble_eq_true rfl, Nat.le_of_ble_eq_true rfl⟩, ⟨Nat.le_refl 0, Nat.le_refl 0⟩⟩ (Nat.le_of_ble_eq_true rfl) rfl (fun r12 X10 Y11 => ?_)
                exact j_iret d_Bri_pan_108
              · skip
                refine j_tabOut (t := 109) d_Bri_pan_14 (tab_out 5 (fun j hj => by rcases (show j = 0 ∨ j = 1 ∨ j = 2 ∨ j = 3 ∨ j = 4 ∨ j = 5 by omega) with rfl | rfl | rfl | rfl | rfl | rfl <;> first | exact ne_toInt z14_0 | exact ne_toInt z14_1 | exact ne_toInt z14_2 | exact ne_toInt z14_3 | exact ne_toInt z14_4 | exact ne_toInt z14_5)) (by decide) ?_
                refine j_bipush (v := -2) (q := 111) d_Bri_pan_109 (by decide +kernel) rfl ?_
                exact j_iret d_Bri_pan_111
  · refine j_iconst (v := -1) (q := 12) d_Bri_pan_11 (by decide) rfl ?_
    exact j_iret d_Bri_pan_12
def f_Bri_fromNow (X : HI) (Y : HL) : Option Out :=
    bv (f_Pan_copy 19 16 X Y) (fun X1 Y2 =>
    (rR 19 X1 Y2))
set_option maxRecDepth 4000 in
theorem c_Bri_fromNow {K : KK} (hK : kOK K) (X : HI) (Y : HL) : CT K y_Bri_fromNow prog_1_method_30_code 1 (some (.object "BrinePans$Pans")) rm_Bri_fromNow [.ref 0] X Y (f_Bri_fromNow X Y) := by
  refine ct_of hK (L := [some (.ref 0)]) (by decide) ⟨rfl, trivial⟩ (Nat.le_of_ble_eq_true rfl) ?_
  unfold f_Bri_fromNow
  refine j_aload_n (i := 0) (x := 0) (q := 1) d_Bri_fromNow_0 rfl rfl rfl ?_
  refine j_get (v := .ref 19) (q := 4) d_Bri_fromNow_1 fk_Bri_32 fv_0_3 rfl ?_
  refine j_aload_n (i := 0) (x := 0) (q := 5) d_Bri_fromNow_4 rfl rfl rfl ?_
  refine j_get (v := .ref 16) (q := 8) d_Bri_fromNow_5 fk_Bri_28 fv_0_2 rfl ?_
  refine j_callVNv (a := 19) (S := []) (q := 11) [.ref 16] d_Bri_fromNow_8 mw_Pan_copy mv_Pan_copy ml_Bri_241 (ob_P isP_19) rfl rfl (c_Pan_copy hK 19 16 isP_19 isP_16 X Y) ⟨⟨rfl, rfl⟩, ⟨Nat.le_of_ble_eq_true rfl, Nat.le_of_ble_eq_true rfl⟩, ⟨Nat.le_refl 0, Nat.le_refl 0⟩⟩ (Nat.le_of_ble_eq_true rfl) rfl (fun X1 Y2 => ?_)
  refine j_aload_n (i := 0) (x := 0) (q := 12) d_Bri_fromNow_11 rfl rfl rfl ?_
  refine j_get (v := .ref 19) (q := 15) d_Bri_fromNow_12 fk_Bri_32 fv_0_3 rfl ?_
  exact j_aret d_Bri_fromNow_15
def f_Bri_settle (x1 : Int32) (X : HI) (Y : HL) : Option Out :=
    (if x1 < 0 then
    (rI x1 X Y)
    else
    bv (f_Act_add X Y) (fun X1 Y2 =>
    bv (f_Pan_copy 16 19 X1 Y2) (fun X3 Y4 =>
    (rI x1 X3 Y4))))
set_option maxRecDepth 4000 in
theorem c_Bri_settle {K : KK} (hK : kOK K) (x1 : Int32) (X : HI) (Y : HL) : CT K y_Bri_settle prog_1_method_31_code 2 (some .int) rm_Bri_settle [.ref 0, .int x1] X Y (f_Bri_settle x1 X Y) := by
  refine ct_of hK (L := [some (.ref 0), some (.int x1)]) (by decide) ⟨rfl, ⟨rfl, trivial⟩⟩ (Nat.le_of_ble_eq_true rfl) ?_
  unfold f_Bri_settle
  refine j_iload_n (i := 1) (x := x1) (q := 1) d_Bri_settle_0 rfl rfl rfl ?_
  refine j_if_lt (t := 26) (q := 4) d_Bri_settle_1 (by decide) rfl ?_ ?_
  · refine j_iload_n (i := 1) (x := x1) (q := 27) d_Bri_settle_26 rfl rfl rfl ?_
    exact j_iret d_Bri_settle_27
  · refine j_aload_n (i := 0) (x := 0) (q := 5) d_Bri_settle_4 rfl rfl rfl ?_
    refine j_get (v := .ref 6) (q := 8) d_Bri_settle_5 fk_Bri_38 fv_0_4 rfl ?_
    refine j_aload_n (i := 0) (x := 0) (q := 9) d_Bri_settle_8 rfl rfl rfl ?_
    refine j_get (v := .ref 16) (q := 12) d_Bri_settle_9 fk_Bri_28 fv_0_2 rfl ?_
    refine j_callVNv (a := 6) (S := []) (q := 15) [.ref 16] d_Bri_settle_12 mw_Act_add mv_Act_add ml_Bri_245 ob_6 rfl rfl (c_Act_add hK X Y) ⟨⟨rfl, rfl⟩, ⟨Nat.le_of_ble_eq_true rfl, Nat.le_of_ble_eq_true rfl⟩, ⟨Nat.le_refl 0, Nat.le_refl 0⟩⟩ (Nat.le_of_ble_eq_true rfl) rfl (fun X1 Y2 => ?_)
    refine j_aload_n (i := 0) (x := 0) (q := 16) d_Bri_settle_15 rfl rfl rfl ?_
    refine j_get (v := .ref 16) (q := 19) d_Bri_settle_16 fk_Bri_28 fv_0_2 rfl ?_
    refine j_aload_n (i := 0) (x := 0) (q := 20) d_Bri_settle_19 rfl rfl rfl ?_
    refine j_get (v := .ref 19) (q := 23) d_Bri_settle_20 fk_Bri_32 fv_0_3 rfl ?_
    refine j_callVNv (a := 16) (S := []) (q := 26) [.ref 19] d_Bri_settle_23 mw_Pan_copy mv_Pan_copy ml_Bri_241 (ob_P isP_16) rfl rfl (c_Pan_copy hK 16 19 isP_16 isP_19 X1 Y2) ⟨⟨rfl, rfl⟩, ⟨Nat.le_of_ble_eq_true rfl, Nat.le_of_ble_eq_true rfl⟩, ⟨Nat.le_refl 0, Nat.le_refl 0⟩⟩ (Nat.le_of_ble_eq_true rfl) rfl (fun X3 Y4 => ?_)
    refine j_iload_n (i := 1) (x := x1) (q := 27) d_Bri_settle_26 rfl rfl rfl ?_
    exact j_iret d_Bri_settle_27
def f_Bri_day (X : HI) (Y : HL) : Option Out :=
    br 19 (f_Bri_fromNow X Y) (fun X1 Y2 =>
    bv (f_Pan_passDay 19 (0 : Int32) X1 Y2) (fun X3 Y4 =>
    bi (f_Pan_crustOfAll 19 X3 Y4) (fun r7 X5 Y6 =>
    bi (f_Bri_settle r7 X5 Y6) (fun r10 X8 Y9 =>
    (rI r10 X8 Y9)))))
set_option maxRecDepth 4000 in
theorem c_Bri_day {K : KK} (hK : kOK K) (X : HI) (Y : HL) : CT K y_Bri_day prog_1_method_8_code 2 (some .int) rm_Bri_day [.ref 0] X Y (f_Bri_day X Y) := by
  refine ct_of hK (L := [some (.ref 0), none]) (by decide) ⟨rfl, trivial⟩ (Nat.le_of_ble_eq_true rfl) ?_
  unfold f_Bri_day
  refine j_aload_n (i := 0) (x := 0) (q := 1) d_Bri_day_0 rfl rfl rfl ?_
  refine j_callVr (a := 0) (ra := 19) (S := []) (q := 4) [] d_Bri_day_1 mw_Bri_fromNow mv_Bri_fromNow ml_Bri_143 ob_0 rfl rfl (c_Bri_fromNow hK X Y) ⟨⟨rfl, rfl⟩, ⟨Nat.le_of_ble_eq_true rfl, Nat.le_of_ble_eq_true rfl⟩, ⟨Nat.le_refl 0, Nat.le_refl 0⟩⟩ (Nat.le_of_ble_eq_true rfl) rfl (fun X1 Y2 => ?_)
  refine j_astore_n (i := 1) (L' := [some (.ref 0), some (.ref 19)]) (q := 5) d_Bri_day_4 rfl (by decide) rfl rfl rfl ?_
  refine j_aload_n (i := 1) (x := 19) (q := 6) d_Bri_day_5 rfl rfl rfl ?_
  refine j_iconst (v := 0) (q := 7) d_Bri_day_6 (by decide) rfl ?_
  refine j_callVNv (a := 19) (S := []) (q := 10) [.int (0 : Int32)] d_Bri_day_7 mw_Pan_passDay mv_Pan_passDay ml_Bri_147 (ob_P isP_19) rfl rfl (c_Pan_passDay hK 19 isP_19 (0 : Int32) X1 Y2) ⟨⟨rfl, rfl⟩, ⟨Nat.le_of_ble_eq_true rfl, Nat.le_of_ble_eq_true rfl⟩, ⟨Nat.le_refl 0, Nat.le_refl 0⟩⟩ (Nat.le_of_ble_eq_true rfl) rfl (fun X3 Y4 => ?_)
  refine j_aload_n (i := 0) (x := 0) (q := 11) d_Bri_day_10 rfl rfl rfl ?_
  refine j_aload_n (i := 1) (x := 19) (q := 12) d_Bri_day_11 rfl rfl rfl ?_
  refine j_callVNi (a := 19) (S := [.ref 0]) (q := 15) [] d_Bri_day_12 mw_Pan_crustOfAll mv_Pan_crustOfAll ml_Bri_114 (ob_P isP_19) rfl rfl (c_Pan_crustOfAll hK 19 isP_19 X3 Y4) ⟨⟨rfl, rfl⟩, ⟨Nat.le_of_ble_eq_true rfl, Nat.le_of_ble_eq_true rfl⟩, ⟨Nat.le_refl 0, Nat.le_refl 0⟩⟩ (Nat.le_of_ble_eq_true rfl) rfl (fun r7 X5 Y6 => ?_)
  refine j_callVi (a := 0) (S := []) (q := 18) [.int r7] d_Bri_day_15 mw_Bri_settle mv_Bri_settle ml_Bri_151 ob_0 rfl rfl (c_Bri_settle hK r7 X5 Y6) ⟨⟨rfl, rfl⟩, ⟨Nat.le_of_ble_eq_true rfl, Nat.le_of_ble_eq_true rfl⟩, ⟨Nat.le_refl 0, Nat.le_refl 0⟩⟩ (Nat.le_of_ble_eq_true rfl) rfl (fun r10 X8 Y9 => ?_)
  exact j_iret d_Bri_day_18
def f_Bri_sea (x1 : Int32) (X : HI) (Y : HL) : Option Out :=
    br 19 (f_Bri_fromNow X Y) (fun X1 Y2 =>
    bi (f_Pan_takeSea 19 x1 X1 Y2) (fun r5 X3 Y4 =>
    bi (f_Bri_settle r5 X3 Y4) (fun r8 X6 Y7 =>
    (rI r8 X6 Y7))))
set_option maxRecDepth 4000 in
theorem c_Bri_sea {K : KK} (hK : kOK K) (x1 : Int32) (X : HI) (Y : HL) : CT K y_Bri_sea prog_1_method_9_code 2 (some .int) rm_Bri_sea [.ref 0, .int x1] X Y (f_Bri_sea x1 X Y) := by
  refine ct_of hK (L := [some (.ref 0), some (.int x1)]) (by decide) ⟨rfl, ⟨rfl, trivial⟩⟩ (Nat.le_of_ble_eq_true rfl) ?_
  unfold f_Bri_sea
  refine j_aload_n (i := 0) (x := 0) (q := 1) d_Bri_sea_0 rfl rfl rfl ?_
  refine j_aload_n (i := 0) (x := 0) (q := 2) d_Bri_sea_1 rfl rfl rfl ?_
  refine j_callVr (a := 0) (ra := 19) (S := [.ref 0]) (q := 5) [] d_Bri_sea_2 mw_Bri_fromNow mv_Bri_fromNow ml_Bri_143 ob_0 rfl rfl (c_Bri_fromNow hK X Y) ⟨⟨rfl, rfl⟩, ⟨Nat.le_of_ble_eq_true rfl, Nat.le_of_ble_eq_true rfl⟩, ⟨Nat.le_refl 0, Nat.le_refl 0⟩⟩ (Nat.le_of_ble_eq_true rfl) rfl (fun X1 Y2 => ?_)
  refine j_iload_n (i := 1) (x := x1) (q := 6) d_Bri_sea_5 rfl rfl rfl ?_
  refine j_callVNi (a := 19) (S := [.ref 0]) (q := 9) [.int x1] d_Bri_sea_6 mw_Pan_takeSea mv_Pan_takeSea ml_Bri_154 (ob_P isP_19) rfl rfl (c_Pan_takeSea hK 19 isP_19 x1 X1 Y2) ⟨⟨rfl, rfl⟩, ⟨Nat.le_of_ble_eq_true rfl, Nat.le_of_ble_eq_true rfl⟩, ⟨Nat.le_refl 0, Nat.le_refl 0⟩⟩ (Nat.le_of_ble_eq_true rfl) rfl (fun r5 X3 Y4 => ?_)
  refine j_callVi (a := 0) (S := []) (q := 12) [.int r5] d_Bri_sea_9 mw_Bri_settle mv_Bri_settle ml_Bri_151 ob_0 rfl rfl (c_Bri_settle hK r5 X3 Y4) ⟨⟨rfl, rfl⟩, ⟨Nat.le_of_ble_eq_true rfl, Nat.le_of_ble_eq_true rfl⟩, ⟨Nat.le_refl 0, Nat.le_refl 0⟩⟩ (Nat.le_of_ble_eq_true rfl) rfl (fun r8 X6 Y7 => ?_)
  exact j_iret d_Bri_sea_12
def f_Bri_let (x1 : Int32) (x2 : Int32) (X : HI) (Y : HL) : Option Out :=
    br 19 (f_Bri_fromNow X Y) (fun X1 Y2 =>
    bi (f_Pan_letOn 19 x1 x2 X1 Y2) (fun r5 X3 Y4 =>
    bi (f_Bri_settle r5 X3 Y4) (fun r8 X6 Y7 =>
    (rI r8 X6 Y7))))
set_option maxRecDepth 4000 in
theorem c_Bri_let {K : KK} (hK : kOK K) (x1 : Int32) (x2 : Int32) (X : HI) (Y : HL) : CT K y_Bri_let prog_1_method_10_code 3 (some .int) rm_Bri_let [.ref 0, .int x1, .int x2] X Y (f_Bri_let x1 x2 X Y) := by
  refine ct_of hK (L := [some (.ref 0), some (.int x1), some (.int x2)]) (by decide) ⟨rfl, ⟨rfl, ⟨rfl, trivial⟩⟩⟩ (Nat.le_of_ble_eq_true rfl) ?_
  unfold f_Bri_let
  refine j_aload_n (i := 0) (x := 0) (q := 1) d_Bri_let_0 rfl rfl rfl ?_
  refine j_aload_n (i := 0) (x := 0) (q := 2) d_Bri_let_1 rfl rfl rfl ?_
  refine j_callVr (a := 0) (ra := 19) (S := [.ref 0]) (q := 5) [] d_Bri_let_2 mw_Bri_fromNow mv_Bri_fromNow ml_Bri_143 ob_0 rfl rfl (c_Bri_fromNow hK X Y) ⟨⟨rfl, rfl⟩, ⟨Nat.le_of_ble_eq_true rfl, Nat.le_of_ble_eq_true rfl⟩, ⟨Nat.le_refl 0, Nat.le_refl 0⟩⟩ (Nat.le_of_ble_eq_true rfl) rfl (fun X1 Y2 => ?_)
  refine j_iload_n (i := 1) (x := x1) (q := 6) d_Bri_let_5 rfl rfl rfl ?_
  refine j_iload_n (i := 2) (x := x2) (q := 7) d_Bri_let_6 rfl rfl rfl ?_
  refine j_callVNi (a := 19) (S := [.ref 0]) (q := 10) [.int x1, .int x2] d_Bri_let_7 mw_Pan_letOn mv_Pan_letOn ml_Bri_157 (ob_P isP_19) rfl rfl (c_Pan_letOn hK 19 isP_19 x1 x2 X1 Y2) ⟨⟨rfl, rfl⟩, ⟨Nat.le_of_ble_eq_true rfl, Nat.le_of_ble_eq_true rfl⟩, ⟨Nat.le_refl 0, Nat.le_refl 0⟩⟩ (Nat.le_of_ble_eq_true rfl) rfl (fun r5 X3 Y4 => ?_)
  refine j_callVi (a := 0) (S := []) (q := 13) [.int r5] d_Bri_let_10 mw_Bri_settle mv_Bri_settle ml_Bri_151 ob_0 rfl rfl (c_Bri_settle hK r5 X3 Y4) ⟨⟨rfl, rfl⟩, ⟨Nat.le_of_ble_eq_true rfl, Nat.le_of_ble_eq_true rfl⟩, ⟨Nat.le_refl 0, Nat.le_refl 0⟩⟩ (Nat.le_of_ble_eq_true rfl) rfl (fun r8 X6 Y7 => ?_)
  exact j_iret d_Bri_let_13
def f_Bri_turn (x1 : Int32) (X : HI) (Y : HL) : Option Out :=
    br 19 (f_Bri_fromNow X Y) (fun X1 Y2 =>
    bi (f_Pan_turnGate 19 x1 X1 Y2) (fun r5 X3 Y4 =>
    bi (f_Bri_settle r5 X3 Y4) (fun r8 X6 Y7 =>
    (rI r8 X6 Y7))))
set_option maxRecDepth 4000 in
theorem c_Bri_turn {K : KK} (hK : kOK K) (x1 : Int32) (X : HI) (Y : HL) : CT K y_Bri_turn prog_1_method_11_code 2 (some .int) rm_Bri_turn [.ref 0, .int x1] X Y (f_Bri_turn x1 X Y) := by
  refine ct_of hK (L := [some (.ref 0), some (.int x1)]) (by decide) ⟨rfl, ⟨rfl, trivial⟩⟩ (Nat.le_of_ble_eq_true rfl) ?_
  unfold f_Bri_turn
  refine j_aload_n (i := 0) (x := 0) (q := 1) d_Bri_turn_0 rfl rfl rfl ?_
  refine j_aload_n (i := 0) (x := 0) (q := 2) d_Bri_turn_1 rfl rfl rfl ?_
  refine j_callVr (a := 0) (ra := 19) (S := [.ref 0]) (q := 5) [] d_Bri_turn_2 mw_Bri_fromNow mv_Bri_fromNow ml_Bri_143 ob_0 rfl rfl (c_Bri_fromNow hK X Y) ⟨⟨rfl, rfl⟩, ⟨Nat.le_of_ble_eq_true rfl, Nat.le_of_ble_eq_true rfl⟩, ⟨Nat.le_refl 0, Nat.le_refl 0⟩⟩ (Nat.le_of_ble_eq_true rfl) rfl (fun X1 Y2 => ?_)
  refine j_iload_n (i := 1) (x := x1) (q := 6) d_Bri_turn_5 rfl rfl rfl ?_
  refine j_callVNi (a := 19) (S := [.ref 0]) (q := 9) [.int x1] d_Bri_turn_6 mw_Pan_turnGate mv_Pan_turnGate ml_Bri_161 (ob_P isP_19) rfl rfl (c_Pan_turnGate hK 19 isP_19 x1 X1 Y2) ⟨⟨rfl, rfl⟩, ⟨Nat.le_of_ble_eq_true rfl, Nat.le_of_ble_eq_true rfl⟩, ⟨Nat.le_refl 0, Nat.le_refl 0⟩⟩ (Nat.le_of_ble_eq_true rfl) rfl (fun r5 X3 Y4 => ?_)
  refine j_callVi (a := 0) (S := []) (q := 12) [.int r5] d_Bri_turn_9 mw_Bri_settle mv_Bri_settle ml_Bri_151 ob_0 rfl rfl (c_Bri_settle hK r5 X3 Y4) ⟨⟨rfl, rfl⟩, ⟨Nat.le_of_ble_eq_true rfl, Nat.le_of_ble_eq_true rfl⟩, ⟨Nat.le_refl 0, Nat.le_refl 0⟩⟩ (Nat.le_of_ble_eq_true rfl) rfl (fun r8 X6 Y7 => ?_)
  exact j_iret d_Bri_turn_12
def f_Bri_rake (x1 : Int32) (X : HI) (Y : HL) : Option Out :=
    br 19 (f_Bri_fromNow X Y) (fun X1 Y2 =>
    bi (f_Pan_rakeUp 19 x1 X1 Y2) (fun r5 X3 Y4 =>
    bi (f_Bri_settle r5 X3 Y4) (fun r8 X6 Y7 =>
    (rI r8 X6 Y7))))
set_option maxRecDepth 4000 in
theorem c_Bri_rake {K : KK} (hK : kOK K) (x1 : Int32) (X : HI) (Y : HL) : CT K y_Bri_rake prog_1_method_12_code 2 (some .int) rm_Bri_rake [.ref 0, .int x1] X Y (f_Bri_rake x1 X Y) := by
  refine ct_of hK (L := [some (.ref 0), some (.int x1)]) (by decide) ⟨rfl, ⟨rfl, trivial⟩⟩ (Nat.le_of_ble_eq_true rfl) ?_
  unfold f_Bri_rake
  refine j_aload_n (i := 0) (x := 0) (q := 1) d_Bri_rake_0 rfl rfl rfl ?_
  refine j_aload_n (i := 0) (x := 0) (q := 2) d_Bri_rake_1 rfl rfl rfl ?_
  refine j_callVr (a := 0) (ra := 19) (S := [.ref 0]) (q := 5) [] d_Bri_rake_2 mw_Bri_fromNow mv_Bri_fromNow ml_Bri_143 ob_0 rfl rfl (c_Bri_fromNow hK X Y) ⟨⟨rfl, rfl⟩, ⟨Nat.le_of_ble_eq_true rfl, Nat.le_of_ble_eq_true rfl⟩, ⟨Nat.le_refl 0, Nat.le_refl 0⟩⟩ (Nat.le_of_ble_eq_true rfl) rfl (fun X1 Y2 => ?_)
  refine j_iload_n (i := 1) (x := x1) (q := 6) d_Bri_rake_5 rfl rfl rfl ?_
  refine j_callVNi (a := 19) (S := [.ref 0]) (q := 9) [.int x1] d_Bri_rake_6 mw_Pan_rakeUp mv_Pan_rakeUp ml_Bri_164 (ob_P isP_19) rfl rfl (c_Pan_rakeUp hK 19 isP_19 x1 X1 Y2) ⟨⟨rfl, rfl⟩, ⟨Nat.le_of_ble_eq_true rfl, Nat.le_of_ble_eq_true rfl⟩, ⟨Nat.le_refl 0, Nat.le_refl 0⟩⟩ (Nat.le_of_ble_eq_true rfl) rfl (fun r5 X3 Y4 => ?_)
  refine j_callVi (a := 0) (S := []) (q := 12) [.int r5] d_Bri_rake_9 mw_Bri_settle mv_Bri_settle ml_Bri_151 ob_0 rfl rfl (c_Bri_settle hK r5 X3 Y4) ⟨⟨rfl, rfl⟩, ⟨Nat.le_of_ble_eq_true rfl, Nat.le_of_ble_eq_true rfl⟩, ⟨Nat.le_refl 0, Nat.le_refl 0⟩⟩ (Nat.le_of_ble_eq_true rfl) rfl (fun r8 X6 Y7 => ?_)
  exact j_iret d_Bri_rake_12
def f_Bri_undo (X : HI) (Y : HL) : Option Out :=
    bi (f_Act_takeBack X Y) (fun r3 X1 Y2 =>
    (rI r3 X1 Y2))
set_option maxRecDepth 4000 in
theorem c_Bri_undo {K : KK} (hK : kOK K) (X : HI) (Y : HL) : CT K y_Bri_undo prog_1_method_13_code 1 (some .int) rm_Bri_undo [.ref 0] X Y (f_Bri_undo X Y) := by
  refine ct_of hK (L := [some (.ref 0)]) (by decide) ⟨rfl, trivial⟩ (Nat.le_of_ble_eq_true rfl) ?_
  unfold f_Bri_undo
  refine j_aload_n (i := 0) (x := 0) (q := 1) d_Bri_undo_0 rfl rfl rfl ?_
  refine j_get (v := .ref 6) (q := 4) d_Bri_undo_1 fk_Bri_38 fv_0_4 rfl ?_
  refine j_aload_n (i := 0) (x := 0) (q := 5) d_Bri_undo_4 rfl rfl rfl ?_
  refine j_get (v := .ref 16) (q := 8) d_Bri_undo_5 fk_Bri_28 fv_0_2 rfl ?_
  refine j_callVNi (a := 6) (S := []) (q := 11) [.ref 16] d_Bri_undo_8 mw_Act_takeBack mv_Act_takeBack ml_Bri_167 ob_6 rfl rfl (c_Act_takeBack hK X Y) ⟨⟨rfl, rfl⟩, ⟨Nat.le_of_ble_eq_true rfl, Nat.le_of_ble_eq_true rfl⟩, ⟨Nat.le_refl 0, Nat.le_refl 0⟩⟩ (Nat.le_of_ble_eq_true rfl) rfl (fun r3 X1 Y2 => ?_)
  exact j_iret d_Bri_undo_11
def f_Bri_later (x1 : Int32) (x2 : Int32) (x3 : Int32) (X : HI) (Y : HL) : Option Out :=
    bi (f_Gro_hasPan x1 X Y) (fun r3 X1 Y2 =>
    (if r3 = 0 then
    (rI (-1 : Int32) X1 Y2)
    else
    bi (f_Bri_isFromTo x2 (0 : Int32) (30 : Int32) X1 Y2) (fun r6 X4 Y5 =>
    (if r6 = 0 then
    (rI (-2 : Int32) X4 Y5)
    else
    bi (f_Bri_isFromTo x3 (0 : Int32) (2 : Int32) X4 Y5) (fun r9 X7 Y8 =>
    (if r9 = 0 then
    (rI (-2 : Int32) X7 Y8)
    else
    br 19 (f_Bri_fromNow X7 Y8) (fun X10 Y11 =>
    bv (f_Pan_passDays 19 x2 X10 Y11) (fun X12 Y13 =>
    (if x3 = 0 then
    gd (ixb x1 6) (
    (rI (X12 20 x1.toNatClampNeg) X12 Y13))
    else
    (if x3 = (1 : Int32) then
    gd (ixb x1 6) (
    (rI (X12 21 x1.toNatClampNeg) X12 Y13))
    else
    bi (f_Pan_crustOf 19 x1 X12 Y13) (fun r16 X14 Y15 =>
    (rI r16 X14 Y15))))))))))))
set_option maxRecDepth 4000 in
theorem c_Bri_later {K : KK} (hK : kOK K) (x1 : Int32) (x2 : Int32) (x3 : Int32) (X : HI) (Y : HL) : CT K y_Bri_later prog_1_method_14_code 5 (some .int) rm_Bri_later [.ref 0, .int x1, .int x2, .int x3] X Y (f_Bri_later x1 x2 x3 X Y) := by
  refine ct_of hK (L := [some (.ref 0), some (.int x1), some (.int x2), some (.int x3), none]) (by decide) ⟨rfl, ⟨rfl, ⟨rfl, ⟨rfl, trivial⟩⟩⟩⟩ (Nat.le_of_ble_eq_true rfl) ?_
  unfold f_Bri_later
  refine j_aload_n (i := 0) (x := 0) (q := 1) d_Bri_later_0 rfl rfl rfl ?_
  refine j_get (v := .ref 3) (q := 4) d_Bri_later_1 fk_Bri_19 fv_0_1 rfl ?_
  refine j_iload_n (i := 1) (x := x1) (q := 5) d_Bri_later_4 rfl rfl rfl ?_
  refine j_callVNi (a := 3) (S := []) (q := 8) [.int x1] d_Bri_later_5 mw_Gro_hasPan mv_Gro_hasPan ml_Bri_127 ob_3 rfl rfl (c_Gro_hasPan hK x1 X Y) ⟨⟨rfl, rfl⟩, ⟨Nat.le_of_ble_eq_true rfl, Nat.le_of_ble_eq_true rfl⟩, ⟨Nat.le_refl 0, Nat.le_refl 0⟩⟩ (Nat.le_of_ble_eq_true rfl) rfl (fun r3 X1 Y2 => ?_)
  refine j_if_ne (t := 13) (q := 11) d_Bri_later_8 (by decide) rfl ?_ ?_
  · refine j_iload_n (i := 2) (x := x2) (q := 14) d_Bri_later_13 rfl rfl rfl ?_
    refine j_iconst (v := 0) (q := 15) d_Bri_later_14 (by decide) rfl ?_
    refine j_bipush (v := 30) (q := 17) d_Bri_later_15 (by decide +kernel) rfl ?_
    refine j_callSi (S := []) (q := 20) [.int x2, .int (0 : Int32), .int (30 : Int32)] d_Bri_later_17 mw_Bri_isFromTo ms_Bri_isFromTo ml_Bri_171 rfl rfl (c_Bri_isFromTo hK x2 (0 : Int32) (30 : Int32) X1 Y2) ⟨⟨rfl, rfl⟩, ⟨Nat.le_of_ble_eq_true rfl, Nat.le_of_ble_eq_true rfl⟩, ⟨Nat.le_refl 0, Nat.le_refl 0⟩⟩ (Nat.le_of_ble_eq_true rfl) rfl (fun r6 X4 Y5 => ?_)
    refine j_if_eq (t := 32) (q := 23) d_Bri_later_20 (by decide) rfl ?_ ?_
    · refine j_bipush (v := -2) (q := 34) d_Bri_later_32 (by decide +kernel) rfl ?_
      exact j_iret d_Bri_later_34
    · refine j_iload_n (i := 3) (x := x3) (q := 24) d_Bri_later_23 rfl rfl rfl ?_
      refine j_iconst (v := 0) (q := 25) d_Bri_later_24 (by decide) rfl ?_
      refine j_iconst (v := 2) (q := 26) d_Bri_later_25 (by decide) rfl ?_
      refine j_callSi (S := []) (q := 29) [.int x3, .int (0 : Int32), .int (2 : Int32)] d_Bri_later_26 mw_Bri_isFromTo ms_Bri_isFromTo ml_Bri_171 rfl rfl (c_Bri_isFromTo hK x3 (0 : Int32) (2 : Int32) X4 Y5) ⟨⟨rfl, rfl⟩, ⟨Nat.le_of_ble_eq_true rfl, Nat.le_of_ble_eq_true rfl⟩, ⟨Nat.le_refl 0, Nat.le_refl 0⟩⟩ (Nat.le_of_ble_eq_true rfl) rfl (fun r9 X7 Y8 => ?_)
      refine j_if_ne (t := 35) (q := 32) d_Bri_later_29 (by decide) rfl ?_ ?_
      · refine j_aload_n (i := 0) (x := 0) (q := 36) d_Bri_later_35 rfl rfl rfl ?_
        refine j_callVr (a := 0) (ra := 19) (S := []) (q := 39) [] d_Bri_later_36 mw_Bri_fromNow mv_Bri_fromNow ml_Bri_143 ob_0 rfl rfl (c_Bri_fromNow hK X7 Y8) ⟨⟨rfl, rfl⟩, ⟨Nat.le_of_ble_eq_true rfl, Nat.le_of_ble_eq_true rfl⟩, ⟨Nat.le_refl 0, Nat.le_refl 0⟩⟩ (Nat.le_of_ble_eq_true rfl) rfl (fun X10 Y11 => ?_)
        refine j_astore (i := 4) (L' := [some (.ref 0), some (.int x1), some (.int x2), some (.int x3), some (.ref 19)]) (q := 41) d_Bri_later_39 (by decide) rfl rfl rfl ?_
        refine j_aload (i := 4) (x := 19) (q := 43) d_Bri_later_41 rfl rfl ?_
        refine j_iload_n (i := 2) (x := x2) (q := 44) d_Bri_later_43 rfl rfl rfl ?_
        refine j_callVNv (a := 19) (S := []) (q := 47) [.int x2] d_Bri_later_44 mw_Pan_passDays mv_Pan_passDays ml_Bri_175 (ob_P isP_19) rfl rfl (c_Pan_passDays hK 19 isP_19 x2 X10 Y11) ⟨⟨rfl, rfl⟩, ⟨Nat.le_of_ble_eq_true rfl, Nat.le_of_ble_eq_true rfl⟩, ⟨Nat.le_refl 0, Nat.le_refl 0⟩⟩ (Nat.le_of_ble_eq_true rfl) rfl (fun X12 Y13 => ?_)
        refine j_iload_n (i := 3) (x := x3) (q := 48) d_Bri_later_47 rfl rfl rfl ?_
        refine j_if_ne (t := 59) (q := 51) d_Bri_later_48 (by decide) rfl ?_ ?_
        · refine j_iload_n (i := 3) (x := x3) (q := 60) d_Bri_later_59 rfl rfl rfl ?_
          refine j_iconst (v := 1) (q := 61) d_Bri_later_60 (by decide) rfl ?_
          refine j_icmp_ne (t := 74) (q := 64) d_Bri_later_61 (by decide) rfl ?_ ?_
          · refine j_aload (i := 4) (x := 19) (q := 76) d_Bri_later_74 rfl rfl ?_
            refine j_iload_n (i := 1) (x := x1) (q := 77) d_Bri_later_76 rfl rfl rfl ?_
            refine j_callVNi (a := 19) (S := []) (q := 80) [.int x1] d_Bri_later_77 mw_Pan_crustOf mv_Pan_crustOf ml_Bri_137 (ob_P isP_19) rfl rfl (c_Pan_crustOf hK 19 isP_19 x1 X12 Y13) ⟨⟨rfl, rfl⟩, ⟨Nat.le_of_ble_eq_true rfl, Nat.le_of_ble_eq_true rfl⟩, ⟨Nat.le_refl 0, Nat.le_refl 0⟩⟩ (Nat.le_of_ble_eq_true rfl) rfl (fun r16 X14 Y15 => ?_)
            exact j_iret d_Bri_later_80
          · refine j_aload (i := 4) (x := 19) (q := 66) d_Bri_later_64 rfl rfl ?_
            refine j_get (v := .ref 21) (q := 69) d_Bri_later_66 fk_Bri_111 (fv_P2 isP_19) rfl ?_
            refine j_iload_n (i := 1) (x := x1) (q := 70) d_Bri_later_69 rfl rfl rfl ?_
            refine j_iald (q := 71) d_Bri_later_70 ai_21 rfl ?_
            refine j_goto (q := 80) d_Bri_later_71 (by decide) ?_
            exact j_iret d_Bri_later_80
        · refine j_aload (i := 4) (x := 19) (q := 53) d_Bri_later_51 rfl rfl ?_
          refine j_get (v := .ref 20) (q := 56) d_Bri_later_53 fk_Bri_104 (fv_P1 isP_19) rfl ?_
          refine j_iload_n (i := 1) (x := x1) (q := 57) d_Bri_later_56 rfl rfl rfl ?_
          refine j_iald (q := 58) d_Bri_later_57 ai_20 rfl ?_
          exact j_iret d_Bri_later_58
      · refine j_bipush (v := -2) (q := 34) d_Bri_later_32 (by decide +kernel) rfl ?_
        exact j_iret d_Bri_later_34
  · refine j_iconst (v := -1) (q := 12) d_Bri_later_11 (by decide) rfl ?_
    exact j_iret d_Bri_later_12
def f_Bri_crust (x1 : Int32) (X : HI) (Y : HL) : Option Out :=
    bi (f_Bri_isFromTo x1 (0 : Int32) (30 : Int32) X Y) (fun r3 X1 Y2 =>
    (if r3 = 0 then
    (rI (-2 : Int32) X1 Y2)
    else
    br 19 (f_Bri_fromNow X1 Y2) (fun X4 Y5 =>
    bi (f_Pan_crustBehind 19 x1 X4 Y5) (fun r8 X6 Y7 =>
    (rI r8 X6 Y7)))))
set_option maxRecDepth 4000 in
theorem c_Bri_crust {K : KK} (hK : kOK K) (x1 : Int32) (X : HI) (Y : HL) : CT K y_Bri_crust prog_1_method_15_code 2 (some .int) rm_Bri_crust [.ref 0, .int x1] X Y (f_Bri_crust x1 X Y) := by
  refine ct_of hK (L := [some (.ref 0), some (.int x1)]) (by decide) ⟨rfl, ⟨rfl, trivial⟩⟩ (Nat.le_of_ble_eq_true rfl) ?_
  unfold f_Bri_crust
  refine j_iload_n (i := 1) (x := x1) (q := 1) d_Bri_crust_0 rfl rfl rfl ?_
  refine j_iconst (v := 0) (q := 2) d_Bri_crust_1 (by decide) rfl ?_
  refine j_bipush (v := 30) (q := 4) d_Bri_crust_2 (by decide +kernel) rfl ?_
  refine j_callSi (S := []) (q := 7) [.int x1, .int (0 : Int32), .int (30 : Int32)] d_Bri_crust_4 mw_Bri_isFromTo ms_Bri_isFromTo ml_Bri_171 rfl rfl (c_Bri_isFromTo hK x1 (0 : Int32) (30 : Int32) X Y) ⟨⟨rfl, rfl⟩, ⟨Nat.le_of_ble_eq_true rfl, Nat.le_of_ble_eq_true rfl⟩, ⟨Nat.le_refl 0, Nat.le_refl 0⟩⟩ (Nat.le_of_ble_eq_true rfl) rfl (fun r3 X1 Y2 => ?_)
  refine j_if_ne (t := 13) (q := 10) d_Bri_crust_7 (by decide) rfl ?_ ?_
  · refine j_aload_n (i := 0) (x := 0) (q := 14) d_Bri_crust_13 rfl rfl rfl ?_
    refine j_callVr (a := 0) (ra := 19) (S := []) (q := 17) [] d_Bri_crust_14 mw_Bri_fromNow mv_Bri_fromNow ml_Bri_143 ob_0 rfl rfl (c_Bri_fromNow hK X1 Y2) ⟨⟨rfl, rfl⟩, ⟨Nat.le_of_ble_eq_true rfl, Nat.le_of_ble_eq_true rfl⟩, ⟨Nat.le_refl 0, Nat.le_refl 0⟩⟩ (Nat.le_of_ble_eq_true rfl) rfl (fun X4 Y5 => ?_)
    refine j_iload_n (i := 1) (x := x1) (q := 18) d_Bri_crust_17 rfl rfl rfl ?_
    refine j_callVNi (a := 19) (S := []) (q := 21) [.int x1] d_Bri_crust_18 mw_Pan_crustBehind mv_Pan_crustBehind ml_Bri_179 (ob_P isP_19) rfl rfl (c_Pan_crustBehind hK 19 isP_19 x1 X4 Y5) ⟨⟨rfl, rfl⟩, ⟨Nat.le_of_ble_eq_true rfl, Nat.le_of_ble_eq_true rfl⟩, ⟨Nat.le_refl 0, Nat.le_refl 0⟩⟩ (Nat.le_of_ble_eq_true rfl) rfl (fun r8 X6 Y7 => ?_)
    exact j_iret d_Bri_crust_21
  · refine j_bipush (v := -2) (q := 12) d_Bri_crust_10 (by decide +kernel) rfl ?_
    exact j_iret d_Bri_crust_12
def l_Bri_ripe_20 (x1 : Int32) (kx : Int32 → HI → HL → Option Out) : Nat → Int32 → HI → HL → Option Out
  | 0, _, _, _ => none
  | n + 1, m3, X, Y =>
    (if (30 : Int32) < m3 then
    (kx m3 X Y)
    else
    bi (f_Pan_canRake 19 x1 X Y) (fun r8 X6 Y7 =>
    (if r8 = 0 then
    bv (f_Pan_passDay 19 (0 : Int32) X6 Y7) (fun X9 Y10 =>
    (l_Bri_ripe_20 x1 kx n (m3 + (1 : Int32)) X9 Y10))
    else
    (rI m3 X6 Y7))))
def f_Bri_ripe (x1 : Int32) (X : HI) (Y : HL) : Option Out :=
    bi (f_Gro_hasPan x1 X Y) (fun r3 X1 Y2 =>
    (if r3 = 0 then
    (rI (-1 : Int32) X1 Y2)
    else
    br 19 (f_Bri_fromNow X1 Y2) (fun X4 Y5 =>
    (l_Bri_ripe_20 x1 (fun w11 X12 Y13 =>
    (rI (-9 : Int32) X12 Y13)) 256 (0 : Int32) X4 Y5))))
set_option maxRecDepth 4000 in
theorem jl_Bri_ripe_20 {K : KK} (hK : kOK K) (x1 : Int32) (kx : Int32 → HI → HL → Option Out) (hkx : ∀ (m3 : Int32) (X : HI) (Y : HL), JO K "BrinePans" prog_1_method_16_code 4 (some .int) rm_Bri_ripe 0 0 (MZ K) 47 [none, none, none, none] [] X Y (kx m3 X Y)) : ∀ (n : Nat) (m3 : Int32) (X : HI) (Y : HL), JO K "BrinePans" prog_1_method_16_code 4 (some .int) rm_Bri_ripe 0 0 (MZ K) 20 [none, some (.int x1), some (.ref 19), some (.int m3)] [] X Y (l_Bri_ripe_20 x1 kx n m3 X Y) := by
  intro n
  induction n with
  | zero =>
    intro m3 X Y
    rw [l_Bri_ripe_20]
    exact j_none
  | succ n ih =>
    intro m3 X Y
    rw [l_Bri_ripe_20]
    refine j_iload_n (i := 3) (x := m3) (q := 21) d_Bri_ripe_20 rfl rfl rfl ?_
    refine j_bipush (v := 30) (q := 23) d_Bri_ripe_21 (by decide +kernel) rfl ?_
    refine j_icmp_gt (t := 47) (q := 26) d_Bri_ripe_23 (by decide) rfl ?_ ?_
    · refine j_sub (L' := [none, none, none, none]) trivial ?_
      exact hkx m3 X Y
    · refine j_aload_n (i := 2) (x := 19) (q := 27) d_Bri_ripe_26 rfl rfl rfl ?_
      refine j_iload_n (i := 1) (x := x1) (q := 28) d_Bri_ripe_27 rfl rfl rfl ?_
      refine j_callVNi (a := 19) (S := []) (q := 31) [.int x1] d_Bri_ripe_28 mw_Pan_canRake mv_Pan_canRake ml_Bri_182 (ob_P isP_19) rfl rfl (c_Pan_canRake hK 19 isP_19 x1 X Y) ⟨⟨rfl, rfl⟩, ⟨Nat.le_of_ble_eq_true rfl, Nat.le_of_ble_eq_true rfl⟩, ⟨Nat.le_refl 0, Nat.le_refl 0⟩⟩ (Nat.le_of_ble_eq_true rfl) rfl (fun r8 X6 Y7 => ?_)
      refine j_if_eq (t := 36) (q := 34) d_Bri_ripe_31 (by decide) rfl ?_ ?_
      · refine j_aload_n (i := 2) (x := 19) (q := 37) d_Bri_ripe_36 rfl rfl rfl ?_
        refine j_iconst (v := 0) (q := 38) d_Bri_ripe_37 (by decide) rfl ?_
        refine j_callVNv (a := 19) (S := []) (q := 41) [.int (0 : Int32)] d_Bri_ripe_38 mw_Pan_passDay mv_Pan_passDay ml_Bri_147 (ob_P isP_19) rfl rfl (c_Pan_passDay hK 19 isP_19 (0 : Int32) X6 Y7) ⟨⟨rfl, rfl⟩, ⟨Nat.le_of_ble_eq_true rfl, Nat.le_of_ble_eq_true rfl⟩, ⟨Nat.le_refl 0, Nat.le_refl 0⟩⟩ (Nat.le_of_ble_eq_true rfl) rfl (fun X9 Y10 => ?_)
        refine j_iinc (i := 3) (x := m3) (d := 1) (L' := [none, some (.int x1), some (.ref 19), some (.int (m3 + (1 : Int32)))]) (q := 44) d_Bri_ripe_41 rfl (by decide) (by decide) rfl rfl rfl ?_
        refine j_goto (q := 20) d_Bri_ripe_44 (by decide) ?_
        refine j_sub (L' := [none, some (.int x1), some (.ref 19), some (.int (m3 + (1 : Int32)))]) ⟨rfl, ⟨rfl, ⟨rfl, trivial⟩⟩⟩ ?_
        exact ih (m3 + (1 : Int32)) X9 Y10
      · refine j_iload_n (i := 3) (x := m3) (q := 35) d_Bri_ripe_34 rfl rfl rfl ?_
        exact j_iret d_Bri_ripe_35
set_option maxRecDepth 4000 in
theorem c_Bri_ripe {K : KK} (hK : kOK K) (x1 : Int32) (X : HI) (Y : HL) : CT K y_Bri_ripe prog_1_method_16_code 4 (some .int) rm_Bri_ripe [.ref 0, .int x1] X Y (f_Bri_ripe x1 X Y) := by
  refine ct_of hK (L := [some (.ref 0), some (.int x1), none, none]) (by decide) ⟨rfl, ⟨rfl, trivial⟩⟩ (Nat.le_of_ble_eq_true rfl) ?_
  unfold f_Bri_ripe
  refine j_aload_n (i := 0) (x := 0) (q := 1) d_Bri_ripe_0 rfl rfl rfl ?_
  refine j_get (v := .ref 3) (q := 4) d_Bri_ripe_1 fk_Bri_19 fv_0_1 rfl ?_
  refine j_iload_n (i := 1) (x := x1) (q := 5) d_Bri_ripe_4 rfl rfl rfl ?_
  refine j_callVNi (a := 3) (S := []) (q := 8) [.int x1] d_Bri_ripe_5 mw_Gro_hasPan mv_Gro_hasPan ml_Bri_127 ob_3 rfl rfl (c_Gro_hasPan hK x1 X Y) ⟨⟨rfl, rfl⟩, ⟨Nat.le_of_ble_eq_true rfl, Nat.le_of_ble_eq_true rfl⟩, ⟨Nat.le_refl 0, Nat.le_refl 0⟩⟩ (Nat.le_of_ble_eq_true rfl) rfl (fun r3 X1 Y2 => ?_)
  refine j_if_ne (t := 13) (q := 11) d_Bri_ripe_8 (by decide) rfl ?_ ?_
  · refine j_aload_n (i := 0) (x := 0) (q := 14) d_Bri_ripe_13 rfl rfl rfl ?_
    refine j_callVr (a := 0) (ra := 19) (S := []) (q := 17) [] d_Bri_ripe_14 mw_Bri_fromNow mv_Bri_fromNow ml_Bri_143 ob_0 rfl rfl (c_Bri_fromNow hK X1 Y2) ⟨⟨rfl, rfl⟩, ⟨Nat.le_of_ble_eq_true rfl, Nat.le_of_ble_eq_true rfl⟩, ⟨Nat.le_refl 0, Nat.le_refl 0⟩⟩ (Nat.le_of_ble_eq_true rfl) rfl (fun X4 Y5 => ?_)
    refine j_astore_n (i := 2) (L' := [some (.ref 0), some (.int x1), some (.ref 19), none]) (q := 18) d_Bri_ripe_17 rfl (by decide) rfl rfl rfl ?_
    refine j_iconst (v := 0) (q := 19) d_Bri_ripe_18 (by decide) rfl ?_
    refine j_istore_n (i := 3) (L' := [some (.ref 0), some (.int x1), some (.ref 19), some (.int (0 : Int32))]) (q := 20) d_Bri_ripe_19 rfl (by decide) rfl rfl rfl ?_
    refine j_sub (L' := [none, some (.int x1), some (.ref 19), some (.int (0 : Int32))]) ⟨rfl, ⟨rfl, ⟨rfl, trivial⟩⟩⟩ ?_
    refine jl_Bri_ripe_20 hK x1 _ (fun w11 X12 Y13 => ?_) 256 (0 : Int32) X4 Y5
    refine j_bipush (v := -9) (q := 49) d_Bri_ripe_47 (by decide +kernel) rfl ?_
    exact j_iret d_Bri_ripe_49
  · refine j_iconst (v := -1) (q := 12) d_Bri_ripe_11 (by decide) rfl ?_
    exact j_iret d_Bri_ripe_12
def b_Bri_best_115 (kc : Int32 → Int32 → Int32 → HI → HL → Option Out) (kx : Int32 → Int32 → Int32 → HI → HL → Option Out) (x1 : Int32) (x2 : Int32) (x3 : Int32) (x4 : Int32) (x5 : Int32) (x6 : Int32) (X : HI) (Y : HL) : Option Out :=
    (kc x3 x4 (x6 + (1 : Int32)) X Y)
def l_Bri_best_52 (x1 : Int32) (x2 : Int32) (x5 : Int32) (kx : Int32 → Int32 → Int32 → HI → HL → Option Out) : Nat → Int32 → Int32 → Int32 → HI → HL → Option Out
  | 0, _, _, _, _, _ => none
  | n + 1, m3, m4, m6, X, Y =>
    gd (ixb x5 6) (
    (if (X 17 x5.toNatClampNeg) < m6 then
    (kx m3 m4 m6 X Y)
    else
    br 19 (f_Bri_fromNow X Y) (fun X15 Y16 =>
    bi (f_Pan_letOn 19 x5 m6 X15 Y16) (fun r19 X17 Y18 =>
    (if 0 ≤ r19 then
    bi (f_Pan_crustBehind 19 x1 X17 Y18) (fun r22 X20 Y21 =>
    (if r22 ≤ m3 then
    (b_Bri_best_115 (fun a3 a4 a6 A B => l_Bri_best_52 x1 x2 x5 kx n a3 a4 a6 A B) kx x1 x2 m3 m4 x5 m6 X20 Y21)
    else
    lt (((10 : Int32) * x5) + m6) (fun v23 =>
    (b_Bri_best_115 (fun a3 a4 a6 A B => l_Bri_best_52 x1 x2 x5 kx n a3 a4 a6 A B) kx x1 x2 r22 v23 x5 m6 X20 Y21))))
    else
    (b_Bri_best_115 (fun a3 a4 a6 A B => l_Bri_best_52 x1 x2 x5 kx n a3 a4 a6 A B) kx x1 x2 m3 m4 x5 m6 X17 Y18))))))
def l_Bri_best_37 (x1 : Int32) (x2 : Int32) (kx : Int32 → Int32 → Int32 → HI → HL → Option Out) : Nat → Int32 → Int32 → Int32 → HI → HL → Option Out
  | 0, _, _, _, _, _ => none
  | n + 1, m3, m4, m5, X, Y =>
    bi (f_Gro_gateCount X Y) (fun r14 X12 Y13 =>
    (if r14 ≤ m5 then
    (kx m3 m4 m5 X12 Y13)
    else
    (l_Bri_best_52 x1 x2 m5 (fun w24 w25 w26 X27 Y28 =>
    (l_Bri_best_37 x1 x2 kx n w24 w25 (m5 + (1 : Int32)) X27 Y28)) 256 m3 m4 (1 : Int32) X12 Y13)))
def f_Bri_best (x1 : Int32) (x2 : Int32) (X : HI) (Y : HL) : Option Out :=
    bi (f_Bri_isFromTo x1 (1 : Int32) (9 : Int32) X Y) (fun r3 X1 Y2 =>
    (if r3 = 0 then
    (rI (-2 : Int32) X1 Y2)
    else
    bi (f_Bri_isFromTo x2 (0 : Int32) (1 : Int32) X1 Y2) (fun r6 X4 Y5 =>
    (if r6 = 0 then
    (rI (-2 : Int32) X4 Y5)
    else
    br 19 (f_Bri_fromNow X4 Y5) (fun X7 Y8 =>
    bi (f_Pan_crustBehind 19 x1 X7 Y8) (fun r11 X9 Y10 =>
    (l_Bri_best_37 x1 x2 (fun w29 w30 w31 X32 Y33 =>
    (if x2 = 0 then
    (rI w29 X32 Y33)
    else
    (rI w30 X32 Y33))) 256 r11 (0 : Int32) (0 : Int32) X9 Y10)))))))
set_option maxRecDepth 4000 in
theorem jb_Bri_best_115 {K : KK} (hK : kOK K) (kc : Int32 → Int32 → Int32 → HI → HL → Option Out) (kx : Int32 → Int32 → Int32 → HI → HL → Option Out) (x1 : Int32) (x2 : Int32) (x3 : Int32) (x4 : Int32) (x5 : Int32) (x6 : Int32) (hkc : ∀ (m3 : Int32) (m4 : Int32) (m6 : Int32) (X : HI) (Y : HL), JO K "BrinePans" prog_1_method_17_code 9 (some .int) rm_Bri_best 0 0 (MZ K) 52 [some (.ref 0), some (.int x1), some (.int x2), some (.int m3), some (.int m4), some (.int x5), some (.int m6), none, none] [] X Y (kc m3 m4 m6 X Y)) (hkx : ∀ (m3 : Int32) (m4 : Int32) (m6 : Int32) (X : HI) (Y : HL), JO K "BrinePans" prog_1_method_17_code 9 (some .int) rm_Bri_best 0 0 (MZ K) 121 [some (.ref 0), some (.int x1), some (.int x2), some (.int m3), some (.int m4), some (.int x5), none, none, none] [] X Y (kx m3 m4 m6 X Y)) (X : HI) (Y : HL) : JO K "BrinePans" prog_1_method_17_code 9 (some .int) rm_Bri_best 0 0 (MZ K) 115 [some (.ref 0), some (.int x1), some (.int x2), some (.int x3), some (.int x4), some (.int x5), some (.int x6), none, none] [] X Y (b_Bri_best_115 kc kx x1 x2 x3 x4 x5 x6 X Y) := by
  unfold b_Bri_best_115
  refine j_iinc (i := 6) (x := x6) (d := 1) (L' := [some (.ref 0), some (.int x1), some (.int x2), some (.int x3), some (.int x4), some (.int x5), some (.int (x6 + (1 : Int32))), none, none]) (q := 118) d_Bri_best_115 rfl (by decide) (by decide) rfl rfl rfl ?_
  refine j_goto (q := 52) d_Bri_best_118 (by decide) ?_
  refine j_sub (L' := [some (.ref 0), some (.int x1), some (.int x2), some (.int x3), some (.int x4), some (.int x5), some (.int (x6 + (1 : Int32))), none, none]) ⟨rfl, ⟨rfl, ⟨rfl, ⟨rfl, ⟨rfl, ⟨rfl, ⟨rfl, trivial⟩⟩⟩⟩⟩⟩⟩ ?_
  exact hkc x3 x4 (x6 + (1 : Int32)) X Y
set_option maxRecDepth 4000 in
theorem jl_Bri_best_52 {K : KK} (hK : kOK K) (x1 : Int32) (x2 : Int32) (x5 : Int32) (kx : Int32 → Int32 → Int32 → HI → HL → Option Out) (hkx : ∀ (m3 : Int32) (m4 : Int32) (m6 : Int32) (X : HI) (Y : HL), JO K "BrinePans" prog_1_method_17_code 9 (some .int) rm_Bri_best 0 0 (MZ K) 121 [some (.ref 0), some (.int x1), some (.int x2), some (.int m3), some (.int m4), some (.int x5), none, none, none] [] X Y (kx m3 m4 m6 X Y)) : ∀ (n : Nat) (m3 : Int32) (m4 : Int32) (m6 : Int32) (X : HI) (Y : HL), JO K "BrinePans" prog_1_method_17_code 9 (some .int) rm_Bri_best 0 0 (MZ K) 52 [some (.ref 0), some (.int x1), some (.int x2), some (.int m3), some (.int m4), some (.int x5), some (.int m6), none, none] [] X Y (l_Bri_best_52 x1 x2 x5 kx n m3 m4 m6 X Y) := by
  intro n
  induction n with
  | zero =>
    intro m3 m4 m6 X Y
    rw [l_Bri_best_52]
    exact j_none
  | succ n ih =>
    intro m3 m4 m6 X Y
    rw [l_Bri_best_52]
    refine j_iload (i := 6) (x := m6) (q := 54) d_Bri_best_52 rfl rfl ?_
    refine j_aload_n (i := 0) (x := 0) (q := 55) d_Bri_best_54 rfl rfl rfl ?_
    refine j_get (v := .ref 16) (q := 58) d_Bri_best_55 fk_Bri_28 fv_0_2 rfl ?_
    refine j_get (v := .ref 17) (q := 61) d_Bri_best_58 fk_Bri_104 (fv_P1 isP_16) rfl ?_
    refine j_iload (i := 5) (x := x5) (q := 63) d_Bri_best_61 rfl rfl ?_
    refine j_iald (q := 64) d_Bri_best_63 ai_17 rfl ?_
    refine j_icmp_gt (t := 121) (q := 67) d_Bri_best_64 (by decide) rfl ?_ ?_
    · refine j_sub (L' := [some (.ref 0), some (.int x1), some (.int x2), some (.int m3), some (.int m4), some (.int x5), none, none, none]) ⟨rfl, ⟨rfl, ⟨rfl, ⟨rfl, ⟨rfl, ⟨rfl, trivial⟩⟩⟩⟩⟩⟩ ?_
      exact hkx m3 m4 m6 X Y
    · refine j_aload_n (i := 0) (x := 0) (q := 68) d_Bri_best_67 rfl rfl rfl ?_
      refine j_callVr (a := 0) (ra := 19) (S := []) (q := 71) [] d_Bri_best_68 mw_Bri_fromNow mv_Bri_fromNow ml_Bri_143 ob_0 rfl rfl (c_Bri_fromNow hK X Y) ⟨⟨rfl, rfl⟩, ⟨Nat.le_of_ble_eq_true rfl, Nat.le_of_ble_eq_true rfl⟩, ⟨Nat.le_refl 0, Nat.le_refl 0⟩⟩ (Nat.le_of_ble_eq_true rfl) rfl (fun X15 Y16 => ?_)
      refine j_astore (i := 7) (L' := [some (.ref 0), some (.int x1), some (.int x2), some (.int m3), some (.int m4), some (.int x5), some (.int m6), some (.ref 19), none]) (q := 73) d_Bri_best_71 (by decide) rfl rfl rfl ?_
      refine j_aload (i := 7) (x := 19) (q := 75) d_Bri_best_73 rfl rfl ?_
      refine j_iload (i := 5) (x := x5) (q := 77) d_Bri_best_75 rfl rfl ?_
      refine j_iload (i := 6) (x := m6) (q := 79) d_Bri_best_77 rfl rfl ?_
      refine j_callVNi (a := 19) (S := []) (q := 82) [.int x5, .int m6] d_Bri_best_79 mw_Pan_letOn mv_Pan_letOn ml_Bri_157 (ob_P isP_19) rfl rfl (c_Pan_letOn hK 19 isP_19 x5 m6 X15 Y16) ⟨⟨rfl, rfl⟩, ⟨Nat.le_of_ble_eq_true rfl, Nat.le_of_ble_eq_true rfl⟩, ⟨Nat.le_refl 0, Nat.le_refl 0⟩⟩ (Nat.le_of_ble_eq_true rfl) rfl (fun r19 X17 Y18 => ?_)
      refine j_if_ge (t := 88) (q := 85) d_Bri_best_82 (by decide) rfl ?_ ?_
      · refine j_aload (i := 7) (x := 19) (q := 90) d_Bri_best_88 rfl rfl ?_
        refine j_iload_n (i := 1) (x := x1) (q := 91) d_Bri_best_90 rfl rfl rfl ?_
        refine j_callVNi (a := 19) (S := []) (q := 94) [.int x1] d_Bri_best_91 mw_Pan_crustBehind mv_Pan_crustBehind ml_Bri_179 (ob_P isP_19) rfl rfl (c_Pan_crustBehind hK 19 isP_19 x1 X17 Y18) ⟨⟨rfl, rfl⟩, ⟨Nat.le_of_ble_eq_true rfl, Nat.le_of_ble_eq_true rfl⟩, ⟨Nat.le_refl 0, Nat.le_refl 0⟩⟩ (Nat.le_of_ble_eq_true rfl) rfl (fun r22 X20 Y21 => ?_)
        refine j_istore (i := 8) (L' := [some (.ref 0), some (.int x1), some (.int x2), some (.int m3), some (.int m4), some (.int x5), some (.int m6), some (.ref 19), some (.int r22)]) (q := 96) d_Bri_best_94 (by decide) rfl rfl rfl ?_
        refine j_iload (i := 8) (x := r22) (q := 98) d_Bri_best_96 rfl rfl ?_
        refine j_iload_n (i := 3) (x := m3) (q := 99) d_Bri_best_98 rfl rfl rfl ?_
        refine j_icmp_le (t := 115) (q := 102) d_Bri_best_99 (by decide) rfl ?_ ?_
        · refine j_sub (L' := [some (.ref 0), some (.int x1), some (.int x2), some (.int m3), some (.int m4), some (.int x5), some (.int m6), none, none]) ⟨rfl, ⟨rfl, ⟨rfl, ⟨rfl, ⟨rfl, ⟨rfl, ⟨rfl, trivial⟩⟩⟩⟩⟩⟩⟩ ?_
          exact jb_Bri_best_115 hK (fun a3 a4 a6 A B => l_Bri_best_52 x1 x2 x5 kx n a3 a4 a6 A B) kx x1 x2 m3 m4 x5 m6 ih hkx X20 Y21
        · refine j_iload (i := 8) (x := r22) (q := 104) d_Bri_best_102 rfl rfl ?_
          refine j_istore_n (i := 3) (L' := [some (.ref 0), some (.int x1), some (.int x2), some (.int r22), some (.int m4), some (.int x5), some (.int m6), some (.ref 19), some (.int r22)]) (q := 105) d_Bri_best_104 rfl (by decide) rfl rfl rfl ?_
          refine j_bipush (v := 10) (q := 107) d_Bri_best_105 (by decide +kernel) rfl ?_
          refine j_iload (i := 5) (x := x5) (q := 109) d_Bri_best_107 rfl rfl ?_
          refine j_imul (q := 110) d_Bri_best_109 rfl ?_
          refine j_iload (i := 6) (x := m6) (q := 112) d_Bri_best_110 rfl rfl ?_
          refine j_iadd (q := 113) d_Bri_best_112 rfl ?_
          refine j_lt (fun v23 => ?_)
          refine j_istore (i := 4) (L' := [some (.ref 0), some (.int x1), some (.int x2), some (.int r22), some (.int v23), some (.int x5), some (.int m6), some (.ref 19), some (.int r22)]) (q := 115) d_Bri_best_113 (by decide) rfl rfl rfl ?_
          refine j_sub (L' := [some (.ref 0), some (.int x1), some (.int x2), some (.int r22), some (.int v23), some (.int x5), some (.int m6), none, none]) ⟨rfl, ⟨rfl, ⟨rfl, ⟨rfl, ⟨rfl, ⟨rfl, ⟨rfl, trivial⟩⟩⟩⟩⟩⟩⟩ ?_
          exact jb_Bri_best_115 hK (fun a3 a4 a6 A B => l_Bri_best_52 x1 x2 x5 kx n a3 a4 a6 A B) kx x1 x2 r22 v23 x5 m6 ih hkx X20 Y21
      · refine j_goto (q := 115) d_Bri_best_85 (by decide) ?_
        refine j_sub (L' := [some (.ref 0), some (.int x1), some (.int x2), some (.int m3), some (.int m4), some (.int x5), some (.int m6), none, none]) ⟨rfl, ⟨rfl, ⟨rfl, ⟨rfl, ⟨rfl, ⟨rfl, ⟨rfl, trivial⟩⟩⟩⟩⟩⟩⟩ ?_
        exact jb_Bri_best_115 hK (fun a3 a4 a6 A B => l_Bri_best_52 x1 x2 x5 kx n a3 a4 a6 A B) kx x1 x2 m3 m4 x5 m6 ih hkx X17 Y18
set_option maxRecDepth 4000 in
theorem jl_Bri_best_37 {K : KK} (hK : kOK K) (x1 : Int32) (x2 : Int32) (kx : Int32 → Int32 → Int32 → HI → HL → Option Out) (hkx : ∀ (m3 : Int32) (m4 : Int32) (m5 : Int32) (X : HI) (Y : HL), JO K "BrinePans" prog_1_method_17_code 9 (some .int) rm_Bri_best 0 0 (MZ K) 127 [none, none, some (.int x2), some (.int m3), some (.int m4), none, none, none, none] [] X Y (kx m3 m4 m5 X Y)) : ∀ (n : Nat) (m3 : Int32) (m4 : Int32) (m5 : Int32) (X : HI) (Y : HL), JO K "BrinePans" prog_1_method_17_code 9 (some .int) rm_Bri_best 0 0 (MZ K) 37 [some (.ref 0), some (.int x1), some (.int x2), some (.int m3), some (.int m4), some (.int m5), none, none, none] [] X Y (l_Bri_best_37 x1 x2 kx n m3 m4 m5 X Y) := by
  intro n
  induction n with
  | zero =>
    intro m3 m4 m5 X Y
    rw [l_Bri_best_37]
    exact j_none
  | succ n ih =>
    intro m3 m4 m5 X Y
    rw [l_Bri_best_37]
    refine j_iload (i := 5) (x := m5) (q := 39) d_Bri_best_37 rfl rfl ?_
    refine j_aload_n (i := 0) (x := 0) (q := 40) d_Bri_best_39 rfl rfl rfl ?_
    refine j_get (v := .ref 3) (q := 43) d_Bri_best_40 fk_Bri_19 fv_0_1 rfl ?_
    refine j_callVNi (a := 3) (S := [.int m5]) (q := 46) [] d_Bri_best_43 mw_Gro_gateCount mv_Gro_gateCount ml_Bri_185 ob_3 rfl rfl (c_Gro_gateCount hK X Y) ⟨⟨rfl, rfl⟩, ⟨Nat.le_of_ble_eq_true rfl, Nat.le_of_ble_eq_true rfl⟩, ⟨Nat.le_refl 0, Nat.le_refl 0⟩⟩ (Nat.le_of_ble_eq_true rfl) rfl (fun r14 X12 Y13 => ?_)
    refine j_icmp_ge (t := 127) (q := 49) d_Bri_best_46 (by decide) rfl ?_ ?_
    · refine j_sub (L' := [none, none, some (.int x2), some (.int m3), some (.int m4), none, none, none, none]) ⟨rfl, ⟨rfl, ⟨rfl, trivial⟩⟩⟩ ?_
      exact hkx m3 m4 m5 X12 Y13
    · refine j_iconst (v := 1) (q := 50) d_Bri_best_49 (by decide) rfl ?_
      refine j_istore (i := 6) (L' := [some (.ref 0), some (.int x1), some (.int x2), some (.int m3), some (.int m4), some (.int m5), some (.int (1 : Int32)), none, none]) (q := 52) d_Bri_best_50 (by decide) rfl rfl rfl ?_
      refine j_sub (L' := [some (.ref 0), some (.int x1), some (.int x2), some (.int m3), some (.int m4), some (.int m5), some (.int (1 : Int32)), none, none]) ⟨rfl, ⟨rfl, ⟨rfl, ⟨rfl, ⟨rfl, ⟨rfl, ⟨rfl, trivial⟩⟩⟩⟩⟩⟩⟩ ?_
      refine jl_Bri_best_52 hK x1 x2 m5 _ (fun w24 w25 w26 X27 Y28 => ?_) 256 m3 m4 (1 : Int32) X12 Y13
      refine j_iinc (i := 5) (x := m5) (d := 1) (L' := [some (.ref 0), some (.int x1), some (.int x2), some (.int w24), some (.int w25), some (.int (m5 + (1 : Int32))), none, none, none]) (q := 124) d_Bri_best_121 rfl (by decide) (by decide) rfl rfl rfl ?_
      refine j_goto (q := 37) d_Bri_best_124 (by decide) ?_
      refine j_sub (L' := [some (.ref 0), some (.int x1), some (.int x2), some (.int w24), some (.int w25), some (.int (m5 + (1 : Int32))), none, none, none]) ⟨rfl, ⟨rfl, ⟨rfl, ⟨rfl, ⟨rfl, ⟨rfl, trivial⟩⟩⟩⟩⟩⟩ ?_
      exact ih w24 w25 (m5 + (1 : Int32)) X27 Y28
set_option maxRecDepth 4000 in
theorem c_Bri_best {K : KK} (hK : kOK K) (x1 : Int32) (x2 : Int32) (X : HI) (Y : HL) : CT K y_Bri_best prog_1_method_17_code 9 (some .int) rm_Bri_best [.ref 0, .int x1, .int x2] X Y (f_Bri_best x1 x2 X Y) := by
  refine ct_of hK (L := [some (.ref 0), some (.int x1), some (.int x2), none, none, none, none, none, none]) (by decide) ⟨rfl, ⟨rfl, ⟨rfl, trivial⟩⟩⟩ (Nat.le_of_ble_eq_true rfl) ?_
  unfold f_Bri_best
  refine j_iload_n (i := 1) (x := x1) (q := 1) d_Bri_best_0 rfl rfl rfl ?_
  refine j_iconst (v := 1) (q := 2) d_Bri_best_1 (by decide) rfl ?_
  refine j_bipush (v := 9) (q := 4) d_Bri_best_2 (by decide +kernel) rfl ?_
  refine j_callSi (S := []) (q := 7) [.int x1, .int (1 : Int32), .int (9 : Int32)] d_Bri_best_4 mw_Bri_isFromTo ms_Bri_isFromTo ml_Bri_171 rfl rfl (c_Bri_isFromTo hK x1 (1 : Int32) (9 : Int32) X Y) ⟨⟨rfl, rfl⟩, ⟨Nat.le_of_ble_eq_true rfl, Nat.le_of_ble_eq_true rfl⟩, ⟨Nat.le_refl 0, Nat.le_refl 0⟩⟩ (Nat.le_of_ble_eq_true rfl) rfl (fun r3 X1 Y2 => ?_)
  refine j_if_eq (t := 19) (q := 10) d_Bri_best_7 (by decide) rfl ?_ ?_
  · refine j_bipush (v := -2) (q := 21) d_Bri_best_19 (by decide +kernel) rfl ?_
    exact j_iret d_Bri_best_21
  · refine j_iload_n (i := 2) (x := x2) (q := 11) d_Bri_best_10 rfl rfl rfl ?_
    refine j_iconst (v := 0) (q := 12) d_Bri_best_11 (by decide) rfl ?_
    refine j_iconst (v := 1) (q := 13) d_Bri_best_12 (by decide) rfl ?_
    refine j_callSi (S := []) (q := 16) [.int x2, .int (0 : Int32), .int (1 : Int32)] d_Bri_best_13 mw_Bri_isFromTo ms_Bri_isFromTo ml_Bri_171 rfl rfl (c_Bri_isFromTo hK x2 (0 : Int32) (1 : Int32) X1 Y2) ⟨⟨rfl, rfl⟩, ⟨Nat.le_of_ble_eq_true rfl, Nat.le_of_ble_eq_true rfl⟩, ⟨Nat.le_refl 0, Nat.le_refl 0⟩⟩ (Nat.le_of_ble_eq_true rfl) rfl (fun r6 X4 Y5 => ?_)
    refine j_if_ne (t := 22) (q := 19) d_Bri_best_16 (by decide) rfl ?_ ?_
    · refine j_aload_n (i := 0) (x := 0) (q := 23) d_Bri_best_22 rfl rfl rfl ?_
      refine j_callVr (a := 0) (ra := 19) (S := []) (q := 26) [] d_Bri_best_23 mw_Bri_fromNow mv_Bri_fromNow ml_Bri_143 ob_0 rfl rfl (c_Bri_fromNow hK X4 Y5) ⟨⟨rfl, rfl⟩, ⟨Nat.le_of_ble_eq_true rfl, Nat.le_of_ble_eq_true rfl⟩, ⟨Nat.le_refl 0, Nat.le_refl 0⟩⟩ (Nat.le_of_ble_eq_true rfl) rfl (fun X7 Y8 => ?_)
      refine j_iload_n (i := 1) (x := x1) (q := 27) d_Bri_best_26 rfl rfl rfl ?_
      refine j_callVNi (a := 19) (S := []) (q := 30) [.int x1] d_Bri_best_27 mw_Pan_crustBehind mv_Pan_crustBehind ml_Bri_179 (ob_P isP_19) rfl rfl (c_Pan_crustBehind hK 19 isP_19 x1 X7 Y8) ⟨⟨rfl, rfl⟩, ⟨Nat.le_of_ble_eq_true rfl, Nat.le_of_ble_eq_true rfl⟩, ⟨Nat.le_refl 0, Nat.le_refl 0⟩⟩ (Nat.le_of_ble_eq_true rfl) rfl (fun r11 X9 Y10 => ?_)
      refine j_istore_n (i := 3) (L' := [some (.ref 0), some (.int x1), some (.int x2), some (.int r11), none, none, none, none, none]) (q := 31) d_Bri_best_30 rfl (by decide) rfl rfl rfl ?_
      refine j_iconst (v := 0) (q := 32) d_Bri_best_31 (by decide) rfl ?_
      refine j_istore (i := 4) (L' := [some (.ref 0), some (.int x1), some (.int x2), some (.int r11), some (.int (0 : Int32)), none, none, none, none]) (q := 34) d_Bri_best_32 (by decide) rfl rfl rfl ?_
      refine j_iconst (v := 0) (q := 35) d_Bri_best_34 (by decide) rfl ?_
      refine j_istore (i := 5) (L' := [some (.ref 0), some (.int x1), some (.int x2), some (.int r11), some (.int (0 : Int32)), some (.int (0 : Int32)), none, none, none]) (q := 37) d_Bri_best_35 (by decide) rfl rfl rfl ?_
      refine j_sub (L' := [some (.ref 0), some (.int x1), some (.int x2), some (.int r11), some (.int (0 : Int32)), some (.int (0 : Int32)), none, none, none]) ⟨rfl, ⟨rfl, ⟨rfl, ⟨rfl, ⟨rfl, ⟨rfl, trivial⟩⟩⟩⟩⟩⟩ ?_
      refine jl_Bri_best_37 hK x1 x2 _ (fun w29 w30 w31 X32 Y33 => ?_) 256 r11 (0 : Int32) (0 : Int32) X9 Y10
      refine j_iload_n (i := 2) (x := x2) (q := 128) d_Bri_best_127 rfl rfl rfl ?_
      refine j_if_ne (t := 135) (q := 131) d_Bri_best_128 (by decide) rfl ?_ ?_
      · refine j_iload (i := 4) (x := w30) (q := 137) d_Bri_best_135 rfl rfl ?_
        exact j_iret d_Bri_best_137
      · refine j_iload_n (i := 3) (x := w29) (q := 132) d_Bri_best_131 rfl rfl rfl ?_
        refine j_goto (q := 137) d_Bri_best_132 (by decide) ?_
        exact j_iret d_Bri_best_137
    · refine j_bipush (v := -2) (q := 21) d_Bri_best_19 (by decide +kernel) rfl ?_
      exact j_iret d_Bri_best_21
def b_Bri_gates_91 (kc : Int32 → Int32 → HI → HL → Option Out) (kx : Int32 → Int32 → HI → HL → Option Out) (x1 : Int32) (x2 : Int32) (x3 : Int32) (x4 : Int32) (X : HI) (Y : HL) : Option Out :=
    (kc x3 (x4 + (1 : Int32)) X Y)
def b_Bri_gates_65 (kc : Int32 → Int32 → HI → HL → Option Out) (kx : Int32 → Int32 → HI → HL → Option Out) (x1 : Int32) (x2 : Int32) (x3 : Int32) (x4 : Int32) (X : HI) (Y : HL) : Option Out :=
    br 19 (f_Bri_fromNow X Y) (fun X10 Y11 =>
    lh (up X10 19 3 x4) (fun X12 =>
    bi (f_Pan_crustBehind 19 x1 X12 Y11) (fun r15 X13 Y14 =>
    (if r15 < x2 then
    (b_Bri_gates_91 kc kx x1 x2 x3 x4 X13 Y14)
    else
    (b_Bri_gates_91 kc kx x1 x2 x4 x4 X13 Y14)))))
def l_Bri_gates_30 (x1 : Int32) (x2 : Int32) (kx : Int32 → Int32 → HI → HL → Option Out) : Nat → Int32 → Int32 → HI → HL → Option Out
  | 0, _, _, _, _ => none
  | n + 1, m3, m4, X, Y =>
    bi (f_Gro_gateCount X Y) (fun r9 X7 Y8 =>
    (if ((1 : Int32) <<< (r9 &&& 31)) ≤ m4 then
    (kx m3 m4 X7 Y8)
    else
    (if m3 = (-9 : Int32) then
    (b_Bri_gates_65 (fun a3 a4 A B => l_Bri_gates_30 x1 x2 kx n a3 a4 A B) kx x1 x2 m3 m4 X7 Y8)
    else
    bi (f_Int_bitCount m4 X7 Y8) (fun r18 X16 Y17 =>
    bi (f_Int_bitCount m3 X16 Y17) (fun r21 X19 Y20 =>
    (if r18 < r21 then
    (b_Bri_gates_65 (fun a3 a4 A B => l_Bri_gates_30 x1 x2 kx n a3 a4 A B) kx x1 x2 m3 m4 X19 Y20)
    else
    (b_Bri_gates_91 (fun a3 a4 A B => l_Bri_gates_30 x1 x2 kx n a3 a4 A B) kx x1 x2 m3 m4 X19 Y20)))))))
def f_Bri_gates (x1 : Int32) (x2 : Int32) (X : HI) (Y : HL) : Option Out :=
    bi (f_Bri_isFromTo x1 (1 : Int32) (9 : Int32) X Y) (fun r3 X1 Y2 =>
    (if r3 = 0 then
    (rI (-2 : Int32) X1 Y2)
    else
    bi (f_Bri_isFromTo x2 (0 : Int32) (999 : Int32) X1 Y2) (fun r6 X4 Y5 =>
    (if r6 = 0 then
    (rI (-2 : Int32) X4 Y5)
    else
    (l_Bri_gates_30 x1 x2 (fun w22 w23 X24 Y25 =>
    (rI w22 X24 Y25)) 256 (-9 : Int32) (0 : Int32) X4 Y5)))))
set_option maxRecDepth 4000 in
theorem jb_Bri_gates_91 {K : KK} (hK : kOK K) (kc : Int32 → Int32 → HI → HL → Option Out) (kx : Int32 → Int32 → HI → HL → Option Out) (x1 : Int32) (x2 : Int32) (x3 : Int32) (x4 : Int32) (hkc : ∀ (m3 : Int32) (m4 : Int32) (X : HI) (Y : HL), JO K "BrinePans" prog_1_method_18_code 6 (some .int) rm_Bri_gates 0 0 (MZ K) 30 [some (.ref 0), some (.int x1), some (.int x2), some (.int m3), some (.int m4), none] [] X Y (kc m3 m4 X Y)) (hkx : ∀ (m3 : Int32) (m4 : Int32) (X : HI) (Y : HL), JO K "BrinePans" prog_1_method_18_code 6 (some .int) rm_Bri_gates 0 0 (MZ K) 97 [none, none, none, some (.int m3), none, none] [] X Y (kx m3 m4 X Y)) (X : HI) (Y : HL) : JO K "BrinePans" prog_1_method_18_code 6 (some .int) rm_Bri_gates 0 0 (MZ K) 91 [some (.ref 0), some (.int x1), some (.int x2), some (.int x3), some (.int x4), none] [] X Y (b_Bri_gates_91 kc kx x1 x2 x3 x4 X Y) := by
  unfold b_Bri_gates_91
  refine j_iinc (i := 4) (x := x4) (d := 1) (L' := [some (.ref 0), some (.int x1), some (.int x2), some (.int x3), some (.int (x4 + (1 : Int32))), none]) (q := 94) d_Bri_gates_91 rfl (by decide) (by decide) rfl rfl rfl ?_
  refine j_goto (q := 30) d_Bri_gates_94 (by decide) ?_
  refine j_sub (L' := [some (.ref 0), some (.int x1), some (.int x2), some (.int x3), some (.int (x4 + (1 : Int32))), none]) ⟨rfl, ⟨rfl, ⟨rfl, ⟨rfl, ⟨rfl, trivial⟩⟩⟩⟩⟩ ?_
  exact hkc x3 (x4 + (1 : Int32)) X Y
set_option maxRecDepth 4000 in
theorem jb_Bri_gates_65 {K : KK} (hK : kOK K) (kc : Int32 → Int32 → HI → HL → Option Out) (kx : Int32 → Int32 → HI → HL → Option Out) (x1 : Int32) (x2 : Int32) (x3 : Int32) (x4 : Int32) (hkc : ∀ (m3 : Int32) (m4 : Int32) (X : HI) (Y : HL), JO K "BrinePans" prog_1_method_18_code 6 (some .int) rm_Bri_gates 0 0 (MZ K) 30 [some (.ref 0), some (.int x1), some (.int x2), some (.int m3), some (.int m4), none] [] X Y (kc m3 m4 X Y)) (hkx : ∀ (m3 : Int32) (m4 : Int32) (X : HI) (Y : HL), JO K "BrinePans" prog_1_method_18_code 6 (some .int) rm_Bri_gates 0 0 (MZ K) 97 [none, none, none, some (.int m3), none, none] [] X Y (kx m3 m4 X Y)) (X : HI) (Y : HL) : JO K "BrinePans" prog_1_method_18_code 6 (some .int) rm_Bri_gates 0 0 (MZ K) 65 [some (.ref 0), some (.int x1), some (.int x2), some (.int x3), some (.int x4), none] [] X Y (b_Bri_gates_65 kc kx x1 x2 x3 x4 X Y) := by
  unfold b_Bri_gates_65
  refine j_aload_n (i := 0) (x := 0) (q := 66) d_Bri_gates_65 rfl rfl rfl ?_
  refine j_callVr (a := 0) (ra := 19) (S := []) (q := 69) [] d_Bri_gates_66 mw_Bri_fromNow mv_Bri_fromNow ml_Bri_143 ob_0 rfl rfl (c_Bri_fromNow hK X Y) ⟨⟨rfl, rfl⟩, ⟨Nat.le_of_ble_eq_true rfl, Nat.le_of_ble_eq_true rfl⟩, ⟨Nat.le_refl 0, Nat.le_refl 0⟩⟩ (Nat.le_of_ble_eq_true rfl) rfl (fun X10 Y11 => ?_)
  refine j_astore (i := 5) (L' := [some (.ref 0), some (.int x1), some (.int x2), some (.int x3), some (.int x4), some (.ref 19)]) (q := 71) d_Bri_gates_69 (by decide) rfl rfl rfl ?_
  refine j_aload (i := 5) (x := 19) (q := 73) d_Bri_gates_71 rfl rfl ?_
  refine j_iload (i := 4) (x := x4) (q := 75) d_Bri_gates_73 rfl rfl ?_
  refine j_putI (q := 78) d_Bri_gates_75 fp_Bri_98 (fw_P3 isP_19) rfl (fun X12 => ?_)
  refine j_aload (i := 5) (x := 19) (q := 80) d_Bri_gates_78 rfl rfl ?_
  refine j_iload_n (i := 1) (x := x1) (q := 81) d_Bri_gates_80 rfl rfl rfl ?_
  refine j_callVNi (a := 19) (S := []) (q := 84) [.int x1] d_Bri_gates_81 mw_Pan_crustBehind mv_Pan_crustBehind ml_Bri_179 (ob_P isP_19) rfl rfl (c_Pan_crustBehind hK 19 isP_19 x1 X12 Y11) ⟨⟨rfl, rfl⟩, ⟨Nat.le_of_ble_eq_true rfl, Nat.le_of_ble_eq_true rfl⟩, ⟨Nat.le_refl 0, Nat.le_refl 0⟩⟩ (Nat.le_of_ble_eq_true rfl) rfl (fun r15 X13 Y14 => ?_)
  refine j_iload_n (i := 2) (x := x2) (q := 85) d_Bri_gates_84 rfl rfl rfl ?_
  refine j_icmp_lt (t := 91) (q := 88) d_Bri_gates_85 (by decide) rfl ?_ ?_
  · refine j_sub (L' := [some (.ref 0), some (.int x1), some (.int x2), some (.int x3), some (.int x4), none]) ⟨rfl, ⟨rfl, ⟨rfl, ⟨rfl, ⟨rfl, trivial⟩⟩⟩⟩⟩ ?_
    exact jb_Bri_gates_91 hK kc kx x1 x2 x3 x4 hkc hkx X13 Y14
  · refine j_iload (i := 4) (x := x4) (q := 90) d_Bri_gates_88 rfl rfl ?_
    refine j_istore_n (i := 3) (L' := [some (.ref 0), some (.int x1), some (.int x2), some (.int x4), some (.int x4), some (.ref 19)]) (q := 91) d_Bri_gates_90 rfl (by decide) rfl rfl rfl ?_
    refine j_sub (L' := [some (.ref 0), some (.int x1), some (.int x2), some (.int x4), some (.int x4), none]) ⟨rfl, ⟨rfl, ⟨rfl, ⟨rfl, ⟨rfl, trivial⟩⟩⟩⟩⟩ ?_
    exact jb_Bri_gates_91 hK kc kx x1 x2 x4 x4 hkc hkx X13 Y14
set_option maxRecDepth 4000 in
theorem jl_Bri_gates_30 {K : KK} (hK : kOK K) (x1 : Int32) (x2 : Int32) (kx : Int32 → Int32 → HI → HL → Option Out) (hkx : ∀ (m3 : Int32) (m4 : Int32) (X : HI) (Y : HL), JO K "BrinePans" prog_1_method_18_code 6 (some .int) rm_Bri_gates 0 0 (MZ K) 97 [none, none, none, some (.int m3), none, none] [] X Y (kx m3 m4 X Y)) : ∀ (n : Nat) (m3 : Int32) (m4 : Int32) (X : HI) (Y : HL), JO K "BrinePans" prog_1_method_18_code 6 (some .int) rm_Bri_gates 0 0 (MZ K) 30 [some (.ref 0), some (.int x1), some (.int x2), some (.int m3), some (.int m4), none] [] X Y (l_Bri_gates_30 x1 x2 kx n m3 m4 X Y) := by
  intro n
  induction n with
  | zero =>
    intro m3 m4 X Y
    rw [l_Bri_gates_30]
    exact j_none
  | succ n ih =>
    intro m3 m4 X Y
    rw [l_Bri_gates_30]
    refine j_iload (i := 4) (x := m4) (q := 32) d_Bri_gates_30 rfl rfl ?_
    refine j_iconst (v := 1) (q := 33) d_Bri_gates_32 (by decide) rfl ?_
    refine j_aload_n (i := 0) (x := 0) (q := 34) d_Bri_gates_33 rfl rfl rfl ?_
    refine j_get (v := .ref 3) (q := 37) d_Bri_gates_34 fk_Bri_19 fv_0_1 rfl ?_
    refine j_callVNi (a := 3) (S := [.int (1 : Int32), .int m4]) (q := 40) [] d_Bri_gates_37 mw_Gro_gateCount mv_Gro_gateCount ml_Bri_185 ob_3 rfl rfl (c_Gro_gateCount hK X Y) ⟨⟨rfl, rfl⟩, ⟨Nat.le_of_ble_eq_true rfl, Nat.le_of_ble_eq_true rfl⟩, ⟨Nat.le_refl 0, Nat.le_refl 0⟩⟩ (Nat.le_of_ble_eq_true rfl) rfl (fun r9 X7 Y8 => ?_)
    refine j_ishl (q := 41) d_Bri_gates_40 rfl ?_
    refine j_icmp_ge (t := 97) (q := 44) d_Bri_gates_41 (by decide) rfl ?_ ?_
    · refine j_sub (L' := [none, none, none, some (.int m3), none, none]) ⟨rfl, trivial⟩ ?_
      exact hkx m3 m4 X7 Y8
    · refine j_iload_n (i := 3) (x := m3) (q := 45) d_Bri_gates_44 rfl rfl rfl ?_
      refine j_bipush (v := -9) (q := 47) d_Bri_gates_45 (by decide +kernel) rfl ?_
      refine j_icmp_eq (t := 65) (q := 50) d_Bri_gates_47 (by decide) rfl ?_ ?_
      · refine j_sub (L' := [some (.ref 0), some (.int x1), some (.int x2), some (.int m3), some (.int m4), none]) ⟨rfl, ⟨rfl, ⟨rfl, ⟨rfl, ⟨rfl, trivial⟩⟩⟩⟩⟩ ?_
        exact jb_Bri_gates_65 hK (fun a3 a4 A B => l_Bri_gates_30 x1 x2 kx n a3 a4 A B) kx x1 x2 m3 m4 ih hkx X7 Y8
      · refine j_iload (i := 4) (x := m4) (q := 52) d_Bri_gates_50 rfl rfl ?_
        refine j_callSi (S := []) (q := 55) [.int m4] d_Bri_gates_52 mw_Int_bitCount ms_Int_bitCount ml_Bri_188 rfl rfl (c_Int_bitCount hK m4 X7 Y8) ⟨⟨rfl, rfl⟩, ⟨Nat.le_of_ble_eq_true rfl, Nat.le_of_ble_eq_true rfl⟩, ⟨Nat.le_refl 0, Nat.le_refl 0⟩⟩ (Nat.le_of_ble_eq_true rfl) rfl (fun r18 X16 Y17 => ?_)
        refine j_iload_n (i := 3) (x := m3) (q := 56) d_Bri_gates_55 rfl rfl rfl ?_
        refine j_callSi (S := [.int r18]) (q := 59) [.int m3] d_Bri_gates_56 mw_Int_bitCount ms_Int_bitCount ml_Bri_188 rfl rfl (c_Int_bitCount hK m3 X16 Y17) ⟨⟨rfl, rfl⟩, ⟨Nat.le_of_ble_eq_true rfl, Nat.le_of_ble_eq_true rfl⟩, ⟨Nat.le_refl 0, Nat.le_refl 0⟩⟩ (Nat.le_of_ble_eq_true rfl) rfl (fun r21 X19 Y20 => ?_)
        refine j_icmp_lt (t := 65) (q := 62) d_Bri_gates_59 (by decide) rfl ?_ ?_
        · refine j_sub (L' := [some (.ref 0), some (.int x1), some (.int x2), some (.int m3), some (.int m4), none]) ⟨rfl, ⟨rfl, ⟨rfl, ⟨rfl, ⟨rfl, trivial⟩⟩⟩⟩⟩ ?_
          exact jb_Bri_gates_65 hK (fun a3 a4 A B => l_Bri_gates_30 x1 x2 kx n a3 a4 A B) kx x1 x2 m3 m4 ih hkx X19 Y20
        · refine j_goto (q := 91) d_Bri_gates_62 (by decide) ?_
          refine j_sub (L' := [some (.ref 0), some (.int x1), some (.int x2), some (.int m3), some (.int m4), none]) ⟨rfl, ⟨rfl, ⟨rfl, ⟨rfl, ⟨rfl, trivial⟩⟩⟩⟩⟩ ?_
          exact jb_Bri_gates_91 hK (fun a3 a4 A B => l_Bri_gates_30 x1 x2 kx n a3 a4 A B) kx x1 x2 m3 m4 ih hkx X19 Y20
set_option maxRecDepth 4000 in
theorem c_Bri_gates {K : KK} (hK : kOK K) (x1 : Int32) (x2 : Int32) (X : HI) (Y : HL) : CT K y_Bri_gates prog_1_method_18_code 6 (some .int) rm_Bri_gates [.ref 0, .int x1, .int x2] X Y (f_Bri_gates x1 x2 X Y) := by
  refine ct_of hK (L := [some (.ref 0), some (.int x1), some (.int x2), none, none, none]) (by decide) ⟨rfl, ⟨rfl, ⟨rfl, trivial⟩⟩⟩ (Nat.le_of_ble_eq_true rfl) ?_
  unfold f_Bri_gates
  refine j_iload_n (i := 1) (x := x1) (q := 1) d_Bri_gates_0 rfl rfl rfl ?_
  refine j_iconst (v := 1) (q := 2) d_Bri_gates_1 (by decide) rfl ?_
  refine j_bipush (v := 9) (q := 4) d_Bri_gates_2 (by decide +kernel) rfl ?_
  refine j_callSi (S := []) (q := 7) [.int x1, .int (1 : Int32), .int (9 : Int32)] d_Bri_gates_4 mw_Bri_isFromTo ms_Bri_isFromTo ml_Bri_171 rfl rfl (c_Bri_isFromTo hK x1 (1 : Int32) (9 : Int32) X Y) ⟨⟨rfl, rfl⟩, ⟨Nat.le_of_ble_eq_true rfl, Nat.le_of_ble_eq_true rfl⟩, ⟨Nat.le_refl 0, Nat.le_refl 0⟩⟩ (Nat.le_of_ble_eq_true rfl) rfl (fun r3 X1 Y2 => ?_)
  refine j_if_eq (t := 21) (q := 10) d_Bri_gates_7 (by decide) rfl ?_ ?_
  · refine j_bipush (v := -2) (q := 23) d_Bri_gates_21 (by decide +kernel) rfl ?_
    exact j_iret d_Bri_gates_23
  · refine j_iload_n (i := 2) (x := x2) (q := 11) d_Bri_gates_10 rfl rfl rfl ?_
    refine j_iconst (v := 0) (q := 12) d_Bri_gates_11 (by decide) rfl ?_
    refine j_sipush (v := 999) (q := 15) d_Bri_gates_12 (by decide +kernel) rfl ?_
    refine j_callSi (S := []) (q := 18) [.int x2, .int (0 : Int32), .int (999 : Int32)] d_Bri_gates_15 mw_Bri_isFromTo ms_Bri_isFromTo ml_Bri_171 rfl rfl (c_Bri_isFromTo hK x2 (0 : Int32) (999 : Int32) X1 Y2) ⟨⟨rfl, rfl⟩, ⟨Nat.le_of_ble_eq_true rfl, Nat.le_of_ble_eq_true rfl⟩, ⟨Nat.le_refl 0, Nat.le_refl 0⟩⟩ (Nat.le_of_ble_eq_true rfl) rfl (fun r6 X4 Y5 => ?_)
    refine j_if_ne (t := 24) (q := 21) d_Bri_gates_18 (by decide) rfl ?_ ?_
    · refine j_bipush (v := -9) (q := 26) d_Bri_gates_24 (by decide +kernel) rfl ?_
      refine j_istore_n (i := 3) (L' := [some (.ref 0), some (.int x1), some (.int x2), some (.int (-9 : Int32)), none, none]) (q := 27) d_Bri_gates_26 rfl (by decide) rfl rfl rfl ?_
      refine j_iconst (v := 0) (q := 28) d_Bri_gates_27 (by decide) rfl ?_
      refine j_istore (i := 4) (L' := [some (.ref 0), some (.int x1), some (.int x2), some (.int (-9 : Int32)), some (.int (0 : Int32)), none]) (q := 30) d_Bri_gates_28 (by decide) rfl rfl rfl ?_
      refine j_sub (L' := [some (.ref 0), some (.int x1), some (.int x2), some (.int (-9 : Int32)), some (.int (0 : Int32)), none]) ⟨rfl, ⟨rfl, ⟨rfl, ⟨rfl, ⟨rfl, trivial⟩⟩⟩⟩⟩ ?_
      refine jl_Bri_gates_30 hK x1 x2 _ (fun w22 w23 X24 Y25 => ?_) 256 (-9 : Int32) (0 : Int32) X4 Y5
      refine j_iload_n (i := 3) (x := w22) (q := 98) d_Bri_gates_97 rfl rfl rfl ?_
      exact j_iret d_Bri_gates_98
    · refine j_bipush (v := -2) (q := 23) d_Bri_gates_21 (by decide +kernel) rfl ?_
      exact j_iret d_Bri_gates_23
def l_Bri_judge_49 (x1 : Int32) (x2 : Int64) (kx : Int32 → HI → HL → Option Out) : Nat → Int32 → HI → HL → Option Out
  | 0, _, _, _ => none
  | n + 1, m5, X, Y =>
    (if x1 ≤ m5 then
    (kx m5 X Y)
    else
    gd (ixb ((x1 - (1 : Int32)) - m5) 4) (
    gd (nzl (tho ((x1 - (1 : Int32)) - m5).toNatClampNeg)) (
    gd (nzl (1000 : Int64)) (
    lt ((x2 / (tho ((x1 - (1 : Int32)) - m5).toNatClampNeg)) - (x2 / (tho ((x1 - (1 : Int32)) - m5).toNatClampNeg)) / (1000 : Int64) * (1000 : Int64)).toInt32 (fun v6 =>
    gd (nzb (100 : Int32)) (
    gd (nzb (10 : Int32)) (
    gd (nzb (10 : Int32)) (
    gd (nzb (10 : Int32)) (
    bi (f_Pan_isDone 19 (v6 / (100 : Int32)) ((v6 / (10 : Int32)) - (v6 / (10 : Int32)) / (10 : Int32) * (10 : Int32)) (v6 - v6 / (10 : Int32) * (10 : Int32)) X Y) (fun r9 X7 Y8 =>
    (if r9 = 0 then
    (rI m5 X7 Y8)
    else
    (l_Bri_judge_49 x1 x2 kx n (m5 + (1 : Int32)) X7 Y8))))))))))))
def f_Bri_judge (x1 : Int32) (x2 : Int64) (X : HI) (Y : HL) : Option Out :=
    bi (f_Bri_isFromTo x1 (1 : Int32) (4 : Int32) X Y) (fun r3 X1 Y2 =>
    (if r3 = 0 then
    (rI (-2 : Int32) X1 Y2)
    else
    (if (lg_cmp x2 (0 : Int64)) < 0 then
    (rI (-2 : Int32) X1 Y2)
    else
    gd (ixb (x1 - (1 : Int32)) 4) (
    gd (nzl (tho (x1 - (1 : Int32)).toNatClampNeg)) (
    (if (lg_cmp (x2 / (tho (x1 - (1 : Int32)).toNatClampNeg)) (999 : Int64)) ≤ 0 then
    br 19 (f_Bri_fromNow X1 Y2) (fun X4 Y5 =>
    (l_Bri_judge_49 x1 x2 (fun w10 X11 Y12 =>
    (rI (-9 : Int32) X11 Y12)) 256 (0 : Int32) X4 Y5))
    else
    (rI (-2 : Int32) X1 Y2)))))))
set_option maxRecDepth 4000 in
theorem jl_Bri_judge_49 {K : KK} (hK : kOK K) (x1 : Int32) (x2 : Int64) (kx : Int32 → HI → HL → Option Out) (hkx : ∀ (m5 : Int32) (X : HI) (Y : HL), JO K "BrinePans" prog_1_method_19_code 7 (some .int) rm_Bri_judge 0 0 (MZ K) 109 [none, none, none, none, none, none, none] [] X Y (kx m5 X Y)) : ∀ (n : Nat) (m5 : Int32) (X : HI) (Y : HL), JO K "BrinePans" prog_1_method_19_code 7 (some .int) rm_Bri_judge 0 0 (MZ K) 49 [none, some (.int x1), some (.long x2), none, some (.ref 19), some (.int m5), none] [] X Y (l_Bri_judge_49 x1 x2 kx n m5 X Y) := by
  intro n
  induction n with
  | zero =>
    intro m5 X Y
    rw [l_Bri_judge_49]
    exact j_none
  | succ n ih =>
    intro m5 X Y
    rw [l_Bri_judge_49]
    refine j_iload (i := 5) (x := m5) (q := 51) d_Bri_judge_49 rfl rfl ?_
    refine j_iload_n (i := 1) (x := x1) (q := 52) d_Bri_judge_51 rfl rfl rfl ?_
    refine j_icmp_ge (t := 109) (q := 55) d_Bri_judge_52 (by decide) rfl ?_ ?_
    · refine j_sub (L' := [none, none, none, none, none, none, none]) trivial ?_
      exact hkx m5 X Y
    · refine j_lload_n (i := 2) (x := x2) (q := 56) d_Bri_judge_55 rfl rfl rfl ?_
      refine j_getT (q := 59) d_Bri_judge_56 (gw_t 438 (by decide +kernel) (by decide +kernel)) rfl ?_
      refine j_iload_n (i := 1) (x := x1) (q := 60) d_Bri_judge_59 rfl rfl rfl ?_
      refine j_iconst (v := 1) (q := 61) d_Bri_judge_60 (by decide) rfl ?_
      refine j_isub (q := 62) d_Bri_judge_61 rfl ?_
      refine j_iload (i := 5) (x := m5) (q := 64) d_Bri_judge_62 rfl rfl ?_
      refine j_isub (q := 65) d_Bri_judge_64 rfl ?_
      refine j_faT (q := 66) d_Bri_judge_65 rfl ?_
      refine j_ldiv (q := 67) d_Bri_judge_66 rfl ?_
      refine j_ldc2 (v := 1000) (q := 70) d_Bri_judge_67 (gw_t 441 (by decide +kernel) (by decide +kernel)) rfl ?_
      refine j_lrem (q := 71) d_Bri_judge_70 rfl ?_
      refine j_l2i (q := 72) d_Bri_judge_71 rfl ?_
      refine j_lt (fun v6 => ?_)
      refine j_istore (i := 6) (L' := [none, some (.int x1), some (.long x2), none, some (.ref 19), some (.int m5), some (.int v6)]) (q := 74) d_Bri_judge_72 (by decide) rfl rfl rfl ?_
      refine j_aload (i := 4) (x := 19) (q := 76) d_Bri_judge_74 rfl rfl ?_
      refine j_iload (i := 6) (x := v6) (q := 78) d_Bri_judge_76 rfl rfl ?_
      refine j_bipush (v := 100) (q := 80) d_Bri_judge_78 (by decide +kernel) rfl ?_
      refine j_idiv (q := 81) d_Bri_judge_80 rfl ?_
      refine j_iload (i := 6) (x := v6) (q := 83) d_Bri_judge_81 rfl rfl ?_
      refine j_bipush (v := 10) (q := 85) d_Bri_judge_83 (by decide +kernel) rfl ?_
      refine j_idiv (q := 86) d_Bri_judge_85 rfl ?_
      refine j_bipush (v := 10) (q := 88) d_Bri_judge_86 (by decide +kernel) rfl ?_
      refine j_irem (q := 89) d_Bri_judge_88 rfl ?_
      refine j_iload (i := 6) (x := v6) (q := 91) d_Bri_judge_89 rfl rfl ?_
      refine j_bipush (v := 10) (q := 93) d_Bri_judge_91 (by decide +kernel) rfl ?_
      refine j_irem (q := 94) d_Bri_judge_93 rfl ?_
      refine j_callVNi (a := 19) (S := []) (q := 97) [.int (v6 / (100 : Int32)), .int ((v6 / (10 : Int32)) - (v6 / (10 : Int32)) / (10 : Int32) * (10 : Int32)), .int (v6 - v6 / (10 : Int32) * (10 : Int32))] d_Bri_judge_94 mw_Pan_isDone mv_Pan_isDone ml_Bri_201 (ob_P isP_19) rfl rfl (c_Pan_isDone hK 19 isP_19 (v6 / (100 : Int32)) ((v6 / (10 : Int32)) - (v6 / (10 : Int32)) / (10 : Int32) * (10 : Int32)) (v6 - v6 / (10 : Int32) * (10 : Int32)) X Y) ⟨⟨rfl, rfl⟩, ⟨Nat.le_of_ble_eq_true rfl, Nat.le_of_ble_eq_true rfl⟩, ⟨Nat.le_refl 0, Nat.le_refl 0⟩⟩ (Nat.le_of_ble_eq_true rfl) rfl (fun r9 X7 Y8 => ?_)
      refine j_if_ne (t := 103) (q := 100) d_Bri_judge_97 (by decide) rfl ?_ ?_
      · refine j_iinc (i := 5) (x := m5) (d := 1) (L' := [none, some (.int x1), some (.long x2), none, some (.ref 19), some (.int (m5 + (1 : Int32))), some (.int v6)]) (q := 106) d_Bri_judge_103 rfl (by decide) (by decide) rfl rfl rfl ?_
        refine j_goto (q := 49) d_Bri_judge_106 (by decide) ?_
        refine j_sub (L' := [none, some (.int x1), some (.long x2), none, some (.ref 19), some (.int (m5 + (1 : Int32))), none]) ⟨rfl, ⟨rfl, ⟨rfl, ⟨rfl, trivial⟩⟩⟩⟩ ?_
        exact ih (m5 + (1 : Int32)) X7 Y8
      · refine j_iload (i := 5) (x := m5) (q := 102) d_Bri_judge_100 rfl rfl ?_
        exact j_iret d_Bri_judge_102
set_option maxRecDepth 4000 in
theorem c_Bri_judge {K : KK} (hK : kOK K) (x1 : Int32) (x2 : Int64) (X : HI) (Y : HL) : CT K y_Bri_judge prog_1_method_19_code 7 (some .int) rm_Bri_judge [.ref 0, .int x1, .long x2] X Y (f_Bri_judge x1 x2 X Y) := by
  refine ct_of hK (L := [some (.ref 0), some (.int x1), some (.long x2), none, none, none, none]) (by decide) ⟨rfl, ⟨rfl, ⟨rfl, trivial⟩⟩⟩ (Nat.le_of_ble_eq_true rfl) ?_
  unfold f_Bri_judge
  refine j_iload_n (i := 1) (x := x1) (q := 1) d_Bri_judge_0 rfl rfl rfl ?_
  refine j_iconst (v := 1) (q := 2) d_Bri_judge_1 (by decide) rfl ?_
  refine j_getT (q := 5) d_Bri_judge_2 (gw_t 438 (by decide +kernel) (by decide +kernel)) rfl ?_
  refine j_lenT (q := 6) d_Bri_judge_5 rfl ?_
  refine j_callSi (S := []) (q := 9) [.int x1, .int (1 : Int32), .int (4 : Int32)] d_Bri_judge_6 mw_Bri_isFromTo ms_Bri_isFromTo ml_Bri_171 rfl rfl (c_Bri_isFromTo hK x1 (1 : Int32) (4 : Int32) X Y) ⟨⟨rfl, rfl⟩, ⟨Nat.le_of_ble_eq_true rfl, Nat.le_of_ble_eq_true rfl⟩, ⟨Nat.le_refl 0, Nat.le_refl 0⟩⟩ (Nat.le_of_ble_eq_true rfl) rfl (fun r3 X1 Y2 => ?_)
  refine j_if_ne (t := 15) (q := 12) d_Bri_judge_9 (by decide) rfl ?_ ?_
  · refine j_lload_n (i := 2) (x := x2) (q := 16) d_Bri_judge_15 rfl rfl rfl ?_
    refine j_lconst (v := 0) (q := 17) d_Bri_judge_16 (by decide) rfl ?_
    refine j_lcmp (q := 18) d_Bri_judge_17 rfl ?_
    refine j_if_lt (t := 37) (q := 21) d_Bri_judge_18 (by decide) rfl ?_ ?_
    · refine j_bipush (v := -2) (q := 39) d_Bri_judge_37 (by decide +kernel) rfl ?_
      exact j_iret d_Bri_judge_39
    · refine j_lload_n (i := 2) (x := x2) (q := 22) d_Bri_judge_21 rfl rfl rfl ?_
      refine j_getT (q := 25) d_Bri_judge_22 (gw_t 438 (by decide +kernel) (by decide +kernel)) rfl ?_
      refine j_iload_n (i := 1) (x := x1) (q := 26) d_Bri_judge_25 rfl rfl rfl ?_
      refine j_iconst (v := 1) (q := 27) d_Bri_judge_26 (by decide) rfl ?_
      refine j_isub (q := 28) d_Bri_judge_27 rfl ?_
      refine j_faT (q := 29) d_Bri_judge_28 rfl ?_
      refine j_ldiv (q := 30) d_Bri_judge_29 rfl ?_
      refine j_ldc2 (v := 999) (q := 33) d_Bri_judge_30 (gw_t 440 (by decide +kernel) (by decide +kernel)) rfl ?_
      refine j_lcmp (q := 34) d_Bri_judge_33 rfl ?_
      refine j_if_le (t := 40) (q := 37) d_Bri_judge_34 (by decide) rfl ?_ ?_
      · refine j_aload_n (i := 0) (x := 0) (q := 41) d_Bri_judge_40 rfl rfl rfl ?_
        refine j_callVr (a := 0) (ra := 19) (S := []) (q := 44) [] d_Bri_judge_41 mw_Bri_fromNow mv_Bri_fromNow ml_Bri_143 ob_0 rfl rfl (c_Bri_fromNow hK X1 Y2) ⟨⟨rfl, rfl⟩, ⟨Nat.le_of_ble_eq_true rfl, Nat.le_of_ble_eq_true rfl⟩, ⟨Nat.le_refl 0, Nat.le_refl 0⟩⟩ (Nat.le_of_ble_eq_true rfl) rfl (fun X4 Y5 => ?_)
        refine j_astore (i := 4) (L' := [some (.ref 0), some (.int x1), some (.long x2), none, some (.ref 19), none, none]) (q := 46) d_Bri_judge_44 (by decide) rfl rfl rfl ?_
        refine j_iconst (v := 0) (q := 47) d_Bri_judge_46 (by decide) rfl ?_
        refine j_istore (i := 5) (L' := [some (.ref 0), some (.int x1), some (.long x2), none, some (.ref 19), some (.int (0 : Int32)), none]) (q := 49) d_Bri_judge_47 (by decide) rfl rfl rfl ?_
        refine j_sub (L' := [none, some (.int x1), some (.long x2), none, some (.ref 19), some (.int (0 : Int32)), none]) ⟨rfl, ⟨rfl, ⟨rfl, ⟨rfl, trivial⟩⟩⟩⟩ ?_
        refine jl_Bri_judge_49 hK x1 x2 _ (fun w10 X11 Y12 => ?_) 256 (0 : Int32) X4 Y5
        refine j_bipush (v := -9) (q := 111) d_Bri_judge_109 (by decide +kernel) rfl ?_
        exact j_iret d_Bri_judge_111
      · refine j_bipush (v := -2) (q := 39) d_Bri_judge_37 (by decide +kernel) rfl ?_
        exact j_iret d_Bri_judge_39
  · refine j_bipush (v := -2) (q := 14) d_Bri_judge_12 (by decide +kernel) rfl ?_
    exact j_iret d_Bri_judge_14
def f_Bri_orders (x0 : Int32) (x1 : Int32) (X : HI) (Y : HL) : Option Out :=
    bi (f_Bri_isFromTo x0 (0 : Int32) (6 : Int32) X Y) (fun r3 X1 Y2 =>
    (if r3 = 0 then
    (rI (0 : Int32) X1 Y2)
    else
    bi (f_Bri_isFromTo x1 (0 : Int32) (6 : Int32) X1 Y2) (fun r6 X4 Y5 =>
    (if r6 = 0 then
    (rI (0 : Int32) X4 Y5)
    else
    gd (ixb x0 7) (
    gd (ixb x1 7) (
    (rI ((fac x0.toNatClampNeg) * (fac x1.toNatClampNeg)) X4 Y5)))))))
set_option maxRecDepth 4000 in
theorem c_Bri_orders {K : KK} (hK : kOK K) (x0 : Int32) (x1 : Int32) (X : HI) (Y : HL) : CT K y_Bri_orders prog_1_method_34_code 2 (some .int) rm_Bri_orders [.int x0, .int x1] X Y (f_Bri_orders x0 x1 X Y) := by
  refine ct_of hK (L := [some (.int x0), some (.int x1)]) (by decide) ⟨rfl, ⟨rfl, trivial⟩⟩ (Nat.le_of_ble_eq_true rfl) ?_
  unfold f_Bri_orders
  refine j_iload_n (i := 0) (x := x0) (q := 1) d_Bri_orders_0 rfl rfl rfl ?_
  refine j_iconst (v := 0) (q := 2) d_Bri_orders_1 (by decide) rfl ?_
  refine j_bipush (v := 6) (q := 4) d_Bri_orders_2 (by decide +kernel) rfl ?_
  refine j_callSi (S := []) (q := 7) [.int x0, .int (0 : Int32), .int (6 : Int32)] d_Bri_orders_4 mw_Bri_isFromTo ms_Bri_isFromTo ml_Bri_171 rfl rfl (c_Bri_isFromTo hK x0 (0 : Int32) (6 : Int32) X Y) ⟨⟨rfl, rfl⟩, ⟨Nat.le_of_ble_eq_true rfl, Nat.le_of_ble_eq_true rfl⟩, ⟨Nat.le_refl 0, Nat.le_refl 0⟩⟩ (Nat.le_of_ble_eq_true rfl) rfl (fun r3 X1 Y2 => ?_)
  refine j_if_eq (t := 20) (q := 10) d_Bri_orders_7 (by decide) rfl ?_ ?_
  · refine j_iconst (v := 0) (q := 21) d_Bri_orders_20 (by decide) rfl ?_
    exact j_iret d_Bri_orders_21
  · refine j_iload_n (i := 1) (x := x1) (q := 11) d_Bri_orders_10 rfl rfl rfl ?_
    refine j_iconst (v := 0) (q := 12) d_Bri_orders_11 (by decide) rfl ?_
    refine j_bipush (v := 6) (q := 14) d_Bri_orders_12 (by decide +kernel) rfl ?_
    refine j_callSi (S := []) (q := 17) [.int x1, .int (0 : Int32), .int (6 : Int32)] d_Bri_orders_14 mw_Bri_isFromTo ms_Bri_isFromTo ml_Bri_171 rfl rfl (c_Bri_isFromTo hK x1 (0 : Int32) (6 : Int32) X1 Y2) ⟨⟨rfl, rfl⟩, ⟨Nat.le_of_ble_eq_true rfl, Nat.le_of_ble_eq_true rfl⟩, ⟨Nat.le_refl 0, Nat.le_refl 0⟩⟩ (Nat.le_of_ble_eq_true rfl) rfl (fun r6 X4 Y5 => ?_)
    refine j_if_ne (t := 22) (q := 20) d_Bri_orders_17 (by decide) rfl ?_ ?_
    · refine j_getF (q := 25) d_Bri_orders_22 (gw_t 457 (by decide +kernel) (by decide +kernel)) rfl ?_
      refine j_iload_n (i := 0) (x := x0) (q := 26) d_Bri_orders_25 rfl rfl rfl ?_
      refine j_faF (q := 27) d_Bri_orders_26 rfl ?_
      refine j_getF (q := 30) d_Bri_orders_27 (gw_t 457 (by decide +kernel) (by decide +kernel)) rfl ?_
      refine j_iload_n (i := 1) (x := x1) (q := 31) d_Bri_orders_30 rfl rfl rfl ?_
      refine j_faF (q := 32) d_Bri_orders_31 rfl ?_
      refine j_imul (q := 33) d_Bri_orders_32 rfl ?_
      exact j_iret d_Bri_orders_33
    · refine j_iconst (v := 0) (q := 21) d_Bri_orders_20 (by decide) rfl ?_
      exact j_iret d_Bri_orders_21
def l_Bri_commonMeasure_2 (kx : Int32 → Int32 → Int32 → HI → HL → Option Out) : Nat → Int32 → Int32 → Int32 → HI → HL → Option Out
  | 0, _, _, _, _, _ => none
  | n + 1, m0, m1, m2, X, Y =>
    (if (64 : Int32) ≤ m2 then
    (kx m0 m1 m2 X Y)
    else
    (if m1 = 0 then
    (kx m0 m1 m2 X Y)
    else
    gd (nzb m1) (
    lt (m0 - m0 / m1 * m1) (fun v1 =>
    (l_Bri_commonMeasure_2 kx n m1 v1 (m2 + (1 : Int32)) X Y)))))
def f_Bri_commonMeasure (x0 : Int32) (x1 : Int32) (X : HI) (Y : HL) : Option Out :=
    (l_Bri_commonMeasure_2 (fun w2 w3 w4 X5 Y6 =>
    (rI w2 X5 Y6)) 256 x0 x1 (0 : Int32) X Y)
set_option maxRecDepth 4000 in
theorem jl_Bri_commonMeasure_2 {K : KK} (hK : kOK K) (kx : Int32 → Int32 → Int32 → HI → HL → Option Out) (hkx : ∀ (m0 : Int32) (m1 : Int32) (m2 : Int32) (X : HI) (Y : HL), JO K "BrinePans" prog_1_method_37_code 4 (some .int) rm_Bri_commonMeasure 0 0 (MZ K) 26 [some (.int m0), none, none, none] [] X Y (kx m0 m1 m2 X Y)) : ∀ (n : Nat) (m0 : Int32) (m1 : Int32) (m2 : Int32) (X : HI) (Y : HL), JO K "BrinePans" prog_1_method_37_code 4 (some .int) rm_Bri_commonMeasure 0 0 (MZ K) 2 [some (.int m0), some (.int m1), some (.int m2), none] [] X Y (l_Bri_commonMeasure_2 kx n m0 m1 m2 X Y) := by
  intro n
  induction n with
  | zero =>
    intro m0 m1 m2 X Y
    rw [l_Bri_commonMeasure_2]
    exact j_none
  | succ n ih =>
    intro m0 m1 m2 X Y
    rw [l_Bri_commonMeasure_2]
    refine j_iload_n (i := 2) (x := m2) (q := 3) d_Bri_commonMeasure_2 rfl rfl rfl ?_
    refine j_bipush (v := 64) (q := 5) d_Bri_commonMeasure_3 (by decide +kernel) rfl ?_
    refine j_icmp_ge (t := 26) (q := 8) d_Bri_commonMeasure_5 (by decide) rfl ?_ ?_
    · refine j_sub (L' := [some (.int m0), none, none, none]) ⟨rfl, trivial⟩ ?_
      exact hkx m0 m1 m2 X Y
    · refine j_iload_n (i := 1) (x := m1) (q := 9) d_Bri_commonMeasure_8 rfl rfl rfl ?_
      refine j_if_eq (t := 26) (q := 12) d_Bri_commonMeasure_9 (by decide) rfl ?_ ?_
      · refine j_sub (L' := [some (.int m0), none, none, none]) ⟨rfl, trivial⟩ ?_
        exact hkx m0 m1 m2 X Y
      · refine j_iload_n (i := 0) (x := m0) (q := 13) d_Bri_commonMeasure_12 rfl rfl rfl ?_
        refine j_iload_n (i := 1) (x := m1) (q := 14) d_Bri_commonMeasure_13 rfl rfl rfl ?_
        refine j_irem (q := 15) d_Bri_commonMeasure_14 rfl ?_
        refine j_lt (fun v1 => ?_)
        refine j_istore_n (i := 3) (L' := [some (.int m0), some (.int m1), some (.int m2), some (.int v1)]) (q := 16) d_Bri_commonMeasure_15 rfl (by decide) rfl rfl rfl ?_
        refine j_iload_n (i := 1) (x := m1) (q := 17) d_Bri_commonMeasure_16 rfl rfl rfl ?_
        refine j_istore_n (i := 0) (L' := [some (.int m1), some (.int m1), some (.int m2), some (.int v1)]) (q := 18) d_Bri_commonMeasure_17 rfl (by decide) rfl rfl rfl ?_
        refine j_iload_n (i := 3) (x := v1) (q := 19) d_Bri_commonMeasure_18 rfl rfl rfl ?_
        refine j_istore_n (i := 1) (L' := [some (.int m1), some (.int v1), some (.int m2), some (.int v1)]) (q := 20) d_Bri_commonMeasure_19 rfl (by decide) rfl rfl rfl ?_
        refine j_iinc (i := 2) (x := m2) (d := 1) (L' := [some (.int m1), some (.int v1), some (.int (m2 + (1 : Int32))), some (.int v1)]) (q := 23) d_Bri_commonMeasure_20 rfl (by decide) (by decide) rfl rfl rfl ?_
        refine j_goto (q := 2) d_Bri_commonMeasure_23 (by decide) ?_
        refine j_sub (L' := [some (.int m1), some (.int v1), some (.int (m2 + (1 : Int32))), none]) ⟨rfl, ⟨rfl, ⟨rfl, trivial⟩⟩⟩ ?_
        exact ih m1 v1 (m2 + (1 : Int32)) X Y
set_option maxRecDepth 4000 in
theorem c_Bri_commonMeasure {K : KK} (hK : kOK K) (x0 : Int32) (x1 : Int32) (X : HI) (Y : HL) : CT K y_Bri_commonMeasure prog_1_method_37_code 4 (some .int) rm_Bri_commonMeasure [.int x0, .int x1] X Y (f_Bri_commonMeasure x0 x1 X Y) := by
  refine ct_of hK (L := [some (.int x0), some (.int x1), none, none]) (by decide) ⟨rfl, ⟨rfl, trivial⟩⟩ (Nat.le_of_ble_eq_true rfl) ?_
  unfold f_Bri_commonMeasure
  refine j_iconst (v := 0) (q := 1) d_Bri_commonMeasure_0 (by decide) rfl ?_
  refine j_istore_n (i := 2) (L' := [some (.int x0), some (.int x1), some (.int (0 : Int32)), none]) (q := 2) d_Bri_commonMeasure_1 rfl (by decide) rfl rfl rfl ?_
  refine j_sub (L' := [some (.int x0), some (.int x1), some (.int (0 : Int32)), none]) ⟨rfl, ⟨rfl, ⟨rfl, trivial⟩⟩⟩ ?_
  refine jl_Bri_commonMeasure_2 hK _ (fun w2 w3 w4 X5 Y6 => ?_) 256 x0 x1 (0 : Int32) X Y
  refine j_iload_n (i := 0) (x := w2) (q := 27) d_Bri_commonMeasure_26 rfl rfl rfl ?_
  exact j_iret d_Bri_commonMeasure_27
def f_Bri_told (x0 : Int32) (x1 : Int32) (x2 : Int32) (X : HI) (Y : HL) : Option Out :=
    bi (f_Bri_commonMeasure (if 0 ≤ x0 then x0 else 0 - x0) x1 X Y) (fun r3 X1 Y2 =>
    (if (1 : Int32) ≤ r3 then
    (if x2 = 0 then
    gd (nzb r3) (
    (rI (x1 / r3) X1 Y2))
    else
    gd (nzb r3) (
    (rI (x0 / r3) X1 Y2)))
    else
    (rI (-9 : Int32) X1 Y2)))
set_option maxRecDepth 4000 in
theorem c_Bri_told {K : KK} (hK : kOK K) (x0 : Int32) (x1 : Int32) (x2 : Int32) (X : HI) (Y : HL) : CT K y_Bri_told prog_1_method_36_code 4 (some .int) rm_Bri_told [.int x0, .int x1, .int x2] X Y (f_Bri_told x0 x1 x2 X Y) := by
  refine ct_of hK (L := [some (.int x0), some (.int x1), some (.int x2), none]) (by decide) ⟨rfl, ⟨rfl, ⟨rfl, trivial⟩⟩⟩ (Nat.le_of_ble_eq_true rfl) ?_
  unfold f_Bri_told
  refine j_iload_n (i := 0) (x := x0) (q := 1) d_Bri_told_0 rfl rfl rfl ?_
  refine j_mabs (S := []) (q := 4) d_Bri_told_1 (gw_t 462 (by decide +kernel) (by decide +kernel)) ⟨Nat.le_of_ble_eq_true rfl, Nat.le_of_ble_eq_true rfl, Nat.le_refl 0, Nat.le_refl 0⟩ rfl ?_
  refine j_iload_n (i := 1) (x := x1) (q := 5) d_Bri_told_4 rfl rfl rfl ?_
  refine j_callSi (S := []) (q := 8) [.int (if 0 ≤ x0 then x0 else 0 - x0), .int x1] d_Bri_told_5 mw_Bri_commonMeasure ms_Bri_commonMeasure ml_Bri_259 rfl rfl (c_Bri_commonMeasure hK (if 0 ≤ x0 then x0 else 0 - x0) x1 X Y) ⟨⟨rfl, rfl⟩, ⟨Nat.le_of_ble_eq_true rfl, Nat.le_of_ble_eq_true rfl⟩, ⟨Nat.le_refl 0, Nat.le_refl 0⟩⟩ (Nat.le_of_ble_eq_true rfl) rfl (fun r3 X1 Y2 => ?_)
  refine j_istore_n (i := 3) (L' := [some (.int x0), some (.int x1), some (.int x2), some (.int r3)]) (q := 9) d_Bri_told_8 rfl (by decide) rfl rfl rfl ?_
  refine j_iload_n (i := 3) (x := r3) (q := 10) d_Bri_told_9 rfl rfl rfl ?_
  refine j_iconst (v := 1) (q := 11) d_Bri_told_10 (by decide) rfl ?_
  refine j_icmp_ge (t := 17) (q := 14) d_Bri_told_11 (by decide) rfl ?_ ?_
  · refine j_iload_n (i := 2) (x := x2) (q := 18) d_Bri_told_17 rfl rfl rfl ?_
    refine j_if_eq (t := 25) (q := 21) d_Bri_told_18 (by decide) rfl ?_ ?_
    · refine j_iload_n (i := 1) (x := x1) (q := 26) d_Bri_told_25 rfl rfl rfl ?_
      refine j_iload_n (i := 3) (x := r3) (q := 27) d_Bri_told_26 rfl rfl rfl ?_
      refine j_idiv (q := 28) d_Bri_told_27 rfl ?_
      exact j_iret d_Bri_told_28
    · refine j_iload_n (i := 0) (x := x0) (q := 22) d_Bri_told_21 rfl rfl rfl ?_
      refine j_goto (q := 26) d_Bri_told_22 (by decide) ?_
      refine j_iload_n (i := 3) (x := r3) (q := 27) d_Bri_told_26 rfl rfl rfl ?_
      refine j_idiv (q := 28) d_Bri_told_27 rfl ?_
      exact j_iret d_Bri_told_28
  · refine j_bipush (v := -9) (q := 16) d_Bri_told_14 (by decide +kernel) rfl ?_
    exact j_iret d_Bri_told_16
def l_Bri_share_26 (x1 : Int32) (x2 : Int32) (x3 : Int32) (kx : Int32 → HI → HL → Option Out) : Nat → Int32 → HI → HL → Option Out
  | 0, _, _, _ => none
  | n + 1, m4, X, Y =>
    (if x3 ≤ m4 then
    (kx m4 X Y)
    else
    br 19 (f_Bri_fromNow X Y) (fun X5 Y6 =>
    bv (f_Pan_emptyAllBut 19 m4 X5 Y6) (fun X7 Y8 =>
    bi (f_Pan_crustBehind 19 (4 : Int32) X7 Y8) (fun r11 X9 Y10 =>
    wr (ixb m4 64) (up X9 14 m4.toNatClampNeg r11) (fun X12 =>
    (l_Bri_share_26 x1 x2 x3 kx n (m4 + (1 : Int32)) X12 Y10))))))
def b_Bri_share_134 (kc : Int32 → Int32 → HI → HL → Option Out) (kx : Int32 → Int32 → HI → HL → Option Out) (x1 : Int32) (x2 : Int32) (x3 : Int32) (x4 : Int32) (x5 : Int32) (X : HI) (Y : HL) : Option Out :=
    (kc x4 (x5 + (1 : Int32)) X Y)
def l_Bri_share_70 (x1 : Int32) (x2 : Int32) (x3 : Int32) (kx : Int32 → Int32 → HI → HL → Option Out) : Nat → Int32 → Int32 → HI → HL → Option Out
  | 0, _, _, _, _ => none
  | n + 1, m4, m5, X, Y =>
    (if x3 ≤ m5 then
    (kx m4 m5 X Y)
    else
    (if ((m5 >>> (x1 &&& 31)) &&& (1 : Int32)) = 0 then
    bi (f_Int_bitCount m5 X Y) (fun r18 X16 Y17 =>
    bi (f_Bri_orders r18 (((X16 3 2) - (1 : Int32)) - r18) X16 Y17) (fun r21 X19 Y20 =>
    gd (ixb (m5 ||| ((1 : Int32) <<< (x1 &&& 31))) 64) (
    gd (ixb m5 64) (
    lt (m4 + (r21 * ((X19 14 (m5 ||| ((1 : Int32) <<< (x1 &&& 31))).toNatClampNeg) - (X19 14 m5.toNatClampNeg)))) (fun v22 =>
    (b_Bri_share_134 (fun a4 a5 A B => l_Bri_share_70 x1 x2 x3 kx n a4 a5 A B) kx x1 x2 x3 v22 m5 X19 Y20))))))
    else
    (b_Bri_share_134 (fun a4 a5 A B => l_Bri_share_70 x1 x2 x3 kx n a4 a5 A B) kx x1 x2 x3 m4 m5 X Y)))
def f_Bri_share (x1 : Int32) (x2 : Int32) (X : HI) (Y : HL) : Option Out :=
    bi (f_Gro_hasPan x1 X Y) (fun r3 X1 Y2 =>
    (if r3 = 0 then
    (rI (-1 : Int32) X1 Y2)
    else
    lt ((1 : Int32) <<< ((X1 3 2) &&& 31)) (fun v4 =>
    (l_Bri_share_26 x1 x2 v4 (fun w13 X14 Y15 =>
    (l_Bri_share_70 x1 x2 v4 (fun w23 w24 X25 Y26 =>
    bi (f_Bri_orders (X25 3 2) (0 : Int32) X25 Y26) (fun r29 X27 Y28 =>
    bi (f_Bri_told w23 r29 x2 X27 Y28) (fun r32 X30 Y31 =>
    (rI r32 X30 Y31)))) 256 (0 : Int32) (0 : Int32) X14 Y15)) 256 (0 : Int32) X1 Y2))))
set_option maxRecDepth 4000 in
theorem jl_Bri_share_26 {K : KK} (hK : kOK K) (x1 : Int32) (x2 : Int32) (x3 : Int32) (kx : Int32 → HI → HL → Option Out) (hkx : ∀ (m4 : Int32) (X : HI) (Y : HL), JO K "BrinePans" prog_1_method_20_code 7 (some .int) rm_Bri_share 0 0 (MZ K) 64 [some (.ref 0), some (.int x1), some (.int x2), some (.int x3), none, none, none] [] X Y (kx m4 X Y)) : ∀ (n : Nat) (m4 : Int32) (X : HI) (Y : HL), JO K "BrinePans" prog_1_method_20_code 7 (some .int) rm_Bri_share 0 0 (MZ K) 26 [some (.ref 0), some (.int x1), some (.int x2), some (.int x3), some (.int m4), none, none] [] X Y (l_Bri_share_26 x1 x2 x3 kx n m4 X Y) := by
  intro n
  induction n with
  | zero =>
    intro m4 X Y
    rw [l_Bri_share_26]
    exact j_none
  | succ n ih =>
    intro m4 X Y
    rw [l_Bri_share_26]
    refine j_iload (i := 4) (x := m4) (q := 28) d_Bri_share_26 rfl rfl ?_
    refine j_iload_n (i := 3) (x := x3) (q := 29) d_Bri_share_28 rfl rfl rfl ?_
    refine j_icmp_ge (t := 64) (q := 32) d_Bri_share_29 (by decide) rfl ?_ ?_
    · refine j_sub (L' := [some (.ref 0), some (.int x1), some (.int x2), some (.int x3), none, none, none]) ⟨rfl, ⟨rfl, ⟨rfl, ⟨rfl, trivial⟩⟩⟩⟩ ?_
      exact hkx m4 X Y
    · refine j_aload_n (i := 0) (x := 0) (q := 33) d_Bri_share_32 rfl rfl rfl ?_
      refine j_callVr (a := 0) (ra := 19) (S := []) (q := 36) [] d_Bri_share_33 mw_Bri_fromNow mv_Bri_fromNow ml_Bri_143 ob_0 rfl rfl (c_Bri_fromNow hK X Y) ⟨⟨rfl, rfl⟩, ⟨Nat.le_of_ble_eq_true rfl, Nat.le_of_ble_eq_true rfl⟩, ⟨Nat.le_refl 0, Nat.le_refl 0⟩⟩ (Nat.le_of_ble_eq_true rfl) rfl (fun X5 Y6 => ?_)
      refine j_astore (i := 5) (L' := [some (.ref 0), some (.int x1), some (.int x2), some (.int x3), some (.int m4), some (.ref 19), none]) (q := 38) d_Bri_share_36 (by decide) rfl rfl rfl ?_
      refine j_aload (i := 5) (x := 19) (q := 40) d_Bri_share_38 rfl rfl ?_
      refine j_iload (i := 4) (x := m4) (q := 42) d_Bri_share_40 rfl rfl ?_
      refine j_callVNv (a := 19) (S := []) (q := 45) [.int m4] d_Bri_share_42 mw_Pan_emptyAllBut mv_Pan_emptyAllBut ml_Bri_204 (ob_P isP_19) rfl rfl (c_Pan_emptyAllBut hK 19 isP_19 m4 X5 Y6) ⟨⟨rfl, rfl⟩, ⟨Nat.le_of_ble_eq_true rfl, Nat.le_of_ble_eq_true rfl⟩, ⟨Nat.le_refl 0, Nat.le_refl 0⟩⟩ (Nat.le_of_ble_eq_true rfl) rfl (fun X7 Y8 => ?_)
      refine j_aload_n (i := 0) (x := 0) (q := 46) d_Bri_share_45 rfl rfl rfl ?_
      refine j_get (v := .ref 14) (q := 49) d_Bri_share_46 fk_Bri_57 fv_0_8 rfl ?_
      refine j_iload (i := 4) (x := m4) (q := 51) d_Bri_share_49 rfl rfl ?_
      refine j_aload (i := 5) (x := 19) (q := 53) d_Bri_share_51 rfl rfl ?_
      refine j_iconst (v := 4) (q := 54) d_Bri_share_53 (by decide) rfl ?_
      refine j_callVNi (a := 19) (S := [.int m4, .ref 14]) (q := 57) [.int (4 : Int32)] d_Bri_share_54 mw_Pan_crustBehind mv_Pan_crustBehind ml_Bri_179 (ob_P isP_19) rfl rfl (c_Pan_crustBehind hK 19 isP_19 (4 : Int32) X7 Y8) ⟨⟨rfl, rfl⟩, ⟨Nat.le_of_ble_eq_true rfl, Nat.le_of_ble_eq_true rfl⟩, ⟨Nat.le_refl 0, Nat.le_refl 0⟩⟩ (Nat.le_of_ble_eq_true rfl) rfl (fun r11 X9 Y10 => ?_)
      refine j_iast (q := 58) d_Bri_share_57 ai_14 rfl (fun X12 => ?_)
      refine j_iinc (i := 4) (x := m4) (d := 1) (L' := [some (.ref 0), some (.int x1), some (.int x2), some (.int x3), some (.int (m4 + (1 : Int32))), some (.ref 19), none]) (q := 61) d_Bri_share_58 rfl (by decide) (by decide) rfl rfl rfl ?_
      refine j_goto (q := 26) d_Bri_share_61 (by decide) ?_
      refine j_sub (L' := [some (.ref 0), some (.int x1), some (.int x2), some (.int x3), some (.int (m4 + (1 : Int32))), none, none]) ⟨rfl, ⟨rfl, ⟨rfl, ⟨rfl, ⟨rfl, trivial⟩⟩⟩⟩⟩ ?_
      exact ih (m4 + (1 : Int32)) X12 Y10
set_option maxRecDepth 4000 in
theorem jb_Bri_share_134 {K : KK} (hK : kOK K) (kc : Int32 → Int32 → HI → HL → Option Out) (kx : Int32 → Int32 → HI → HL → Option Out) (x1 : Int32) (x2 : Int32) (x3 : Int32) (x4 : Int32) (x5 : Int32) (hkc : ∀ (m4 : Int32) (m5 : Int32) (X : HI) (Y : HL), JO K "BrinePans" prog_1_method_20_code 7 (some .int) rm_Bri_share 0 0 (MZ K) 70 [some (.ref 0), some (.int x1), some (.int x2), some (.int x3), some (.int m4), some (.int m5), none] [] X Y (kc m4 m5 X Y)) (hkx : ∀ (m4 : Int32) (m5 : Int32) (X : HI) (Y : HL), JO K "BrinePans" prog_1_method_20_code 7 (some .int) rm_Bri_share 0 0 (MZ K) 140 [some (.ref 0), none, some (.int x2), none, some (.int m4), none, none] [] X Y (kx m4 m5 X Y)) (X : HI) (Y : HL) : JO K "BrinePans" prog_1_method_20_code 7 (some .int) rm_Bri_share 0 0 (MZ K) 134 [some (.ref 0), some (.int x1), some (.int x2), some (.int x3), some (.int x4), some (.int x5), none] [] X Y (b_Bri_share_134 kc kx x1 x2 x3 x4 x5 X Y) := by
  unfold b_Bri_share_134
  refine j_iinc (i := 5) (x := x5) (d := 1) (L' := [some (.ref 0), some (.int x1), some (.int x2), some (.int x3), some (.int x4), some (.int (x5 + (1 : Int32))), none]) (q := 137) d_Bri_share_134 rfl (by decide) (by decide) rfl rfl rfl ?_
  refine j_goto (q := 70) d_Bri_share_137 (by decide) ?_
  refine j_sub (L' := [some (.ref 0), some (.int x1), some (.int x2), some (.int x3), some (.int x4), some (.int (x5 + (1 : Int32))), none]) ⟨rfl, ⟨rfl, ⟨rfl, ⟨rfl, ⟨rfl, ⟨rfl, trivial⟩⟩⟩⟩⟩⟩ ?_
  exact hkc x4 (x5 + (1 : Int32)) X Y
set_option maxRecDepth 4000 in
theorem jl_Bri_share_70 {K : KK} (hK : kOK K) (x1 : Int32) (x2 : Int32) (x3 : Int32) (kx : Int32 → Int32 → HI → HL → Option Out) (hkx : ∀ (m4 : Int32) (m5 : Int32) (X : HI) (Y : HL), JO K "BrinePans" prog_1_method_20_code 7 (some .int) rm_Bri_share 0 0 (MZ K) 140 [some (.ref 0), none, some (.int x2), none, some (.int m4), none, none] [] X Y (kx m4 m5 X Y)) : ∀ (n : Nat) (m4 : Int32) (m5 : Int32) (X : HI) (Y : HL), JO K "BrinePans" prog_1_method_20_code 7 (some .int) rm_Bri_share 0 0 (MZ K) 70 [some (.ref 0), some (.int x1), some (.int x2), some (.int x3), some (.int m4), some (.int m5), none] [] X Y (l_Bri_share_70 x1 x2 x3 kx n m4 m5 X Y) := by
  intro n
  induction n with
  | zero =>
    intro m4 m5 X Y
    rw [l_Bri_share_70]
    exact j_none
  | succ n ih =>
    intro m4 m5 X Y
    rw [l_Bri_share_70]
    refine j_iload (i := 5) (x := m5) (q := 72) d_Bri_share_70 rfl rfl ?_
    refine j_iload_n (i := 3) (x := x3) (q := 73) d_Bri_share_72 rfl rfl rfl ?_
    refine j_icmp_ge (t := 140) (q := 76) d_Bri_share_73 (by decide) rfl ?_ ?_
    · refine j_sub (L' := [some (.ref 0), none, some (.int x2), none, some (.int m4), none, none]) ⟨rfl, ⟨rfl, ⟨rfl, trivial⟩⟩⟩ ?_
      exact hkx m4 m5 X Y
    · refine j_iload (i := 5) (x := m5) (q := 78) d_Bri_share_76 rfl rfl ?_
      refine j_iload_n (i := 1) (x := x1) (q := 79) d_Bri_share_78 rfl rfl rfl ?_
      refine j_ishr (q := 80) d_Bri_share_79 rfl ?_
      refine j_iconst (v := 1) (q := 81) d_Bri_share_80 (by decide) rfl ?_
      refine j_iand (q := 82) d_Bri_share_81 rfl ?_
      refine j_if_ne (t := 134) (q := 85) d_Bri_share_82 (by decide) rfl ?_ ?_
      · refine j_sub (L' := [some (.ref 0), some (.int x1), some (.int x2), some (.int x3), some (.int m4), some (.int m5), none]) ⟨rfl, ⟨rfl, ⟨rfl, ⟨rfl, ⟨rfl, ⟨rfl, trivial⟩⟩⟩⟩⟩⟩ ?_
        exact jb_Bri_share_134 hK (fun a4 a5 A B => l_Bri_share_70 x1 x2 x3 kx n a4 a5 A B) kx x1 x2 x3 m4 m5 ih hkx X Y
      · refine j_iload (i := 5) (x := m5) (q := 87) d_Bri_share_85 rfl rfl ?_
        refine j_callSi (S := []) (q := 90) [.int m5] d_Bri_share_87 mw_Int_bitCount ms_Int_bitCount ml_Bri_188 rfl rfl (c_Int_bitCount hK m5 X Y) ⟨⟨rfl, rfl⟩, ⟨Nat.le_of_ble_eq_true rfl, Nat.le_of_ble_eq_true rfl⟩, ⟨Nat.le_refl 0, Nat.le_refl 0⟩⟩ (Nat.le_of_ble_eq_true rfl) rfl (fun r18 X16 Y17 => ?_)
        refine j_istore (i := 6) (L' := [some (.ref 0), some (.int x1), some (.int x2), some (.int x3), some (.int m4), some (.int m5), some (.int r18)]) (q := 92) d_Bri_share_90 (by decide) rfl rfl rfl ?_
        refine j_iload (i := 4) (x := m4) (q := 94) d_Bri_share_92 rfl rfl ?_
        refine j_iload (i := 6) (x := r18) (q := 96) d_Bri_share_94 rfl rfl ?_
        refine j_aload_n (i := 0) (x := 0) (q := 97) d_Bri_share_96 rfl rfl rfl ?_
        refine j_get (v := .ref 3) (q := 100) d_Bri_share_97 fk_Bri_19 fv_0_1 rfl ?_
        refine j_get (v := .int (X16 3 2)) (q := 103) d_Bri_share_100 fk_Bri_85 fv_3_2 rfl ?_
        refine j_iconst (v := 1) (q := 104) d_Bri_share_103 (by decide) rfl ?_
        refine j_isub (q := 105) d_Bri_share_104 rfl ?_
        refine j_iload (i := 6) (x := r18) (q := 107) d_Bri_share_105 rfl rfl ?_
        refine j_isub (q := 108) d_Bri_share_107 rfl ?_
        refine j_callSi (S := [.int m4]) (q := 111) [.int r18, .int (((X16 3 2) - (1 : Int32)) - r18)] d_Bri_share_108 mw_Bri_orders ms_Bri_orders ml_Bri_207 rfl rfl (c_Bri_orders hK r18 (((X16 3 2) - (1 : Int32)) - r18) X16 Y17) ⟨⟨rfl, rfl⟩, ⟨Nat.le_of_ble_eq_true rfl, Nat.le_of_ble_eq_true rfl⟩, ⟨Nat.le_refl 0, Nat.le_refl 0⟩⟩ (Nat.le_of_ble_eq_true rfl) rfl (fun r21 X19 Y20 => ?_)
        refine j_aload_n (i := 0) (x := 0) (q := 112) d_Bri_share_111 rfl rfl rfl ?_
        refine j_get (v := .ref 14) (q := 115) d_Bri_share_112 fk_Bri_57 fv_0_8 rfl ?_
        refine j_iload (i := 5) (x := m5) (q := 117) d_Bri_share_115 rfl rfl ?_
        refine j_iconst (v := 1) (q := 118) d_Bri_share_117 (by decide) rfl ?_
        refine j_iload_n (i := 1) (x := x1) (q := 119) d_Bri_share_118 rfl rfl rfl ?_
        refine j_ishl (q := 120) d_Bri_share_119 rfl ?_
        refine j_ior (q := 121) d_Bri_share_120 rfl ?_
        refine j_iald (q := 122) d_Bri_share_121 ai_14 rfl ?_
        refine j_aload_n (i := 0) (x := 0) (q := 123) d_Bri_share_122 rfl rfl rfl ?_
        refine j_get (v := .ref 14) (q := 126) d_Bri_share_123 fk_Bri_57 fv_0_8 rfl ?_
        refine j_iload (i := 5) (x := m5) (q := 128) d_Bri_share_126 rfl rfl ?_
        refine j_iald (q := 129) d_Bri_share_128 ai_14 rfl ?_
        refine j_isub (q := 130) d_Bri_share_129 rfl ?_
        refine j_imul (q := 131) d_Bri_share_130 rfl ?_
        refine j_iadd (q := 132) d_Bri_share_131 rfl ?_
        refine j_lt (fun v22 => ?_)
        refine j_istore (i := 4) (L' := [some (.ref 0), some (.int x1), some (.int x2), some (.int x3), some (.int v22), some (.int m5), some (.int r18)]) (q := 134) d_Bri_share_132 (by decide) rfl rfl rfl ?_
        refine j_sub (L' := [some (.ref 0), some (.int x1), some (.int x2), some (.int x3), some (.int v22), some (.int m5), none]) ⟨rfl, ⟨rfl, ⟨rfl, ⟨rfl, ⟨rfl, ⟨rfl, trivial⟩⟩⟩⟩⟩⟩ ?_
        exact jb_Bri_share_134 hK (fun a4 a5 A B => l_Bri_share_70 x1 x2 x3 kx n a4 a5 A B) kx x1 x2 x3 v22 m5 ih hkx X19 Y20
set_option maxRecDepth 4000 in
theorem c_Bri_share {K : KK} (hK : kOK K) (x1 : Int32) (x2 : Int32) (X : HI) (Y : HL) : CT K y_Bri_share prog_1_method_20_code 7 (some .int) rm_Bri_share [.ref 0, .int x1, .int x2] X Y (f_Bri_share x1 x2 X Y) := by
  refine ct_of hK (L := [some (.ref 0), some (.int x1), some (.int x2), none, none, none, none]) (by decide) ⟨rfl, ⟨rfl, ⟨rfl, trivial⟩⟩⟩ (Nat.le_of_ble_eq_true rfl) ?_
  unfold f_Bri_share
  refine j_aload_n (i := 0) (x := 0) (q := 1) d_Bri_share_0 rfl rfl rfl ?_
  refine j_get (v := .ref 3) (q := 4) d_Bri_share_1 fk_Bri_19 fv_0_1 rfl ?_
  refine j_iload_n (i := 1) (x := x1) (q := 5) d_Bri_share_4 rfl rfl rfl ?_
  refine j_callVNi (a := 3) (S := []) (q := 8) [.int x1] d_Bri_share_5 mw_Gro_hasPan mv_Gro_hasPan ml_Bri_127 ob_3 rfl rfl (c_Gro_hasPan hK x1 X Y) ⟨⟨rfl, rfl⟩, ⟨Nat.le_of_ble_eq_true rfl, Nat.le_of_ble_eq_true rfl⟩, ⟨Nat.le_refl 0, Nat.le_refl 0⟩⟩ (Nat.le_of_ble_eq_true rfl) rfl (fun r3 X1 Y2 => ?_)
  refine j_if_ne (t := 13) (q := 11) d_Bri_share_8 (by decide) rfl ?_ ?_
  · refine j_iconst (v := 1) (q := 14) d_Bri_share_13 (by decide) rfl ?_
    refine j_aload_n (i := 0) (x := 0) (q := 15) d_Bri_share_14 rfl rfl rfl ?_
    refine j_get (v := .ref 3) (q := 18) d_Bri_share_15 fk_Bri_19 fv_0_1 rfl ?_
    refine j_get (v := .int (X1 3 2)) (q := 21) d_Bri_share_18 fk_Bri_85 fv_3_2 rfl ?_
    refine j_ishl (q := 22) d_Bri_share_21 rfl ?_
    refine j_lt (fun v4 => ?_)
    refine j_istore_n (i := 3) (L' := [some (.ref 0), some (.int x1), some (.int x2), some (.int v4), none, none, none]) (q := 23) d_Bri_share_22 rfl (by decide) rfl rfl rfl ?_
    refine j_iconst (v := 0) (q := 24) d_Bri_share_23 (by decide) rfl ?_
    refine j_istore (i := 4) (L' := [some (.ref 0), some (.int x1), some (.int x2), some (.int v4), some (.int (0 : Int32)), none, none]) (q := 26) d_Bri_share_24 (by decide) rfl rfl rfl ?_
    refine j_sub (L' := [some (.ref 0), some (.int x1), some (.int x2), some (.int v4), some (.int (0 : Int32)), none, none]) ⟨rfl, ⟨rfl, ⟨rfl, ⟨rfl, ⟨rfl, trivial⟩⟩⟩⟩⟩ ?_
    refine jl_Bri_share_26 hK x1 x2 v4 _ (fun w13 X14 Y15 => ?_) 256 (0 : Int32) X1 Y2
    refine j_iconst (v := 0) (q := 65) d_Bri_share_64 (by decide) rfl ?_
    refine j_istore (i := 4) (L' := [some (.ref 0), some (.int x1), some (.int x2), some (.int v4), some (.int (0 : Int32)), none, none]) (q := 67) d_Bri_share_65 (by decide) rfl rfl rfl ?_
    refine j_iconst (v := 0) (q := 68) d_Bri_share_67 (by decide) rfl ?_
    refine j_istore (i := 5) (L' := [some (.ref 0), some (.int x1), some (.int x2), some (.int v4), some (.int (0 : Int32)), some (.int (0 : Int32)), none]) (q := 70) d_Bri_share_68 (by decide) rfl rfl rfl ?_
    refine j_sub (L' := [some (.ref 0), some (.int x1), some (.int x2), some (.int v4), some (.int (0 : Int32)), some (.int (0 : Int32)), none]) ⟨rfl, ⟨rfl, ⟨rfl, ⟨rfl, ⟨rfl, ⟨rfl, trivial⟩⟩⟩⟩⟩⟩ ?_
    refine jl_Bri_share_70 hK x1 x2 v4 _ (fun w23 w24 X25 Y26 => ?_) 256 (0 : Int32) (0 : Int32) X14 Y15
    refine j_iload (i := 4) (x := w23) (q := 142) d_Bri_share_140 rfl rfl ?_
    refine j_aload_n (i := 0) (x := 0) (q := 143) d_Bri_share_142 rfl rfl rfl ?_
    refine j_get (v := .ref 3) (q := 146) d_Bri_share_143 fk_Bri_19 fv_0_1 rfl ?_
    refine j_get (v := .int (X25 3 2)) (q := 149) d_Bri_share_146 fk_Bri_85 fv_3_2 rfl ?_
    refine j_iconst (v := 0) (q := 150) d_Bri_share_149 (by decide) rfl ?_
    refine j_callSi (S := [.int w23]) (q := 153) [.int (X25 3 2), .int (0 : Int32)] d_Bri_share_150 mw_Bri_orders ms_Bri_orders ml_Bri_207 rfl rfl (c_Bri_orders hK (X25 3 2) (0 : Int32) X25 Y26) ⟨⟨rfl, rfl⟩, ⟨Nat.le_of_ble_eq_true rfl, Nat.le_of_ble_eq_true rfl⟩, ⟨Nat.le_refl 0, Nat.le_refl 0⟩⟩ (Nat.le_of_ble_eq_true rfl) rfl (fun r29 X27 Y28 => ?_)
    refine j_iload_n (i := 2) (x := x2) (q := 154) d_Bri_share_153 rfl rfl rfl ?_
    refine j_callSi (S := []) (q := 157) [.int w23, .int r29, .int x2] d_Bri_share_154 mw_Bri_told ms_Bri_told ml_Bri_210 rfl rfl (c_Bri_told hK w23 r29 x2 X27 Y28) ⟨⟨rfl, rfl⟩, ⟨Nat.le_of_ble_eq_true rfl, Nat.le_of_ble_eq_true rfl⟩, ⟨Nat.le_refl 0, Nat.le_refl 0⟩⟩ (Nat.le_of_ble_eq_true rfl) rfl (fun r32 X30 Y31 => ?_)
    exact j_iret d_Bri_share_157
  · refine j_iconst (v := -1) (q := 12) d_Bri_share_11 (by decide) rfl ?_
    exact j_iret d_Bri_share_12
def f_Bri_find (x1 : Int32) (x2 : Int32) (x3 : Int32) (X : HI) (Y : HL) : Option Out :=
    bi (f_Bri_isFromTo x1 (0 : Int32) (9 : Int32) X Y) (fun r3 X1 Y2 =>
    (if r3 = 0 then
    (rI (-2 : Int32) X1 Y2)
    else
    bi (f_Bri_isFromTo x2 (0 : Int32) (99 : Int32) X1 Y2) (fun r6 X4 Y5 =>
    (if r6 = 0 then
    (rI (-2 : Int32) X4 Y5)
    else
    bi (f_Bri_isFromTo x3 (0 : Int32) (1 : Int32) X4 Y5) (fun r9 X7 Y8 =>
    (if r9 = 0 then
    (rI (-2 : Int32) X7 Y8)
    else
    bi (f_Fin_add x1 x2 x3 X7 Y8) (fun r12 X10 Y11 =>
    (rI r12 X10 Y11))))))))
set_option maxRecDepth 4000 in
theorem c_Bri_find {K : KK} (hK : kOK K) (x1 : Int32) (x2 : Int32) (x3 : Int32) (X : HI) (Y : HL) : CT K y_Bri_find prog_1_method_21_code 4 (some .int) rm_Bri_find [.ref 0, .int x1, .int x2, .int x3] X Y (f_Bri_find x1 x2 x3 X Y) := by
  refine ct_of hK (L := [some (.ref 0), some (.int x1), some (.int x2), some (.int x3)]) (by decide) ⟨rfl, ⟨rfl, ⟨rfl, ⟨rfl, trivial⟩⟩⟩⟩ (Nat.le_of_ble_eq_true rfl) ?_
  unfold f_Bri_find
  refine j_iload_n (i := 1) (x := x1) (q := 1) d_Bri_find_0 rfl rfl rfl ?_
  refine j_iconst (v := 0) (q := 2) d_Bri_find_1 (by decide) rfl ?_
  refine j_bipush (v := 9) (q := 4) d_Bri_find_2 (by decide +kernel) rfl ?_
  refine j_callSi (S := []) (q := 7) [.int x1, .int (0 : Int32), .int (9 : Int32)] d_Bri_find_4 mw_Bri_isFromTo ms_Bri_isFromTo ml_Bri_171 rfl rfl (c_Bri_isFromTo hK x1 (0 : Int32) (9 : Int32) X Y) ⟨⟨rfl, rfl⟩, ⟨Nat.le_of_ble_eq_true rfl, Nat.le_of_ble_eq_true rfl⟩, ⟨Nat.le_refl 0, Nat.le_refl 0⟩⟩ (Nat.le_of_ble_eq_true rfl) rfl (fun r3 X1 Y2 => ?_)
  refine j_if_eq (t := 29) (q := 10) d_Bri_find_7 (by decide) rfl ?_ ?_
  · refine j_bipush (v := -2) (q := 31) d_Bri_find_29 (by decide +kernel) rfl ?_
    exact j_iret d_Bri_find_31
  · refine j_iload_n (i := 2) (x := x2) (q := 11) d_Bri_find_10 rfl rfl rfl ?_
    refine j_iconst (v := 0) (q := 12) d_Bri_find_11 (by decide) rfl ?_
    refine j_bipush (v := 99) (q := 14) d_Bri_find_12 (by decide +kernel) rfl ?_
    refine j_callSi (S := []) (q := 17) [.int x2, .int (0 : Int32), .int (99 : Int32)] d_Bri_find_14 mw_Bri_isFromTo ms_Bri_isFromTo ml_Bri_171 rfl rfl (c_Bri_isFromTo hK x2 (0 : Int32) (99 : Int32) X1 Y2) ⟨⟨rfl, rfl⟩, ⟨Nat.le_of_ble_eq_true rfl, Nat.le_of_ble_eq_true rfl⟩, ⟨Nat.le_refl 0, Nat.le_refl 0⟩⟩ (Nat.le_of_ble_eq_true rfl) rfl (fun r6 X4 Y5 => ?_)
    refine j_if_eq (t := 29) (q := 20) d_Bri_find_17 (by decide) rfl ?_ ?_
    · refine j_bipush (v := -2) (q := 31) d_Bri_find_29 (by decide +kernel) rfl ?_
      exact j_iret d_Bri_find_31
    · refine j_iload_n (i := 3) (x := x3) (q := 21) d_Bri_find_20 rfl rfl rfl ?_
      refine j_iconst (v := 0) (q := 22) d_Bri_find_21 (by decide) rfl ?_
      refine j_iconst (v := 1) (q := 23) d_Bri_find_22 (by decide) rfl ?_
      refine j_callSi (S := []) (q := 26) [.int x3, .int (0 : Int32), .int (1 : Int32)] d_Bri_find_23 mw_Bri_isFromTo ms_Bri_isFromTo ml_Bri_171 rfl rfl (c_Bri_isFromTo hK x3 (0 : Int32) (1 : Int32) X4 Y5) ⟨⟨rfl, rfl⟩, ⟨Nat.le_of_ble_eq_true rfl, Nat.le_of_ble_eq_true rfl⟩, ⟨Nat.le_refl 0, Nat.le_refl 0⟩⟩ (Nat.le_of_ble_eq_true rfl) rfl (fun r9 X7 Y8 => ?_)
      refine j_if_ne (t := 32) (q := 29) d_Bri_find_26 (by decide) rfl ?_ ?_
      · refine j_aload_n (i := 0) (x := 0) (q := 33) d_Bri_find_32 rfl rfl rfl ?_
        refine j_get (v := .ref 8) (q := 36) d_Bri_find_33 fk_Bri_45 fv_0_5 rfl ?_
        refine j_iload_n (i := 1) (x := x1) (q := 37) d_Bri_find_36 rfl rfl rfl ?_
        refine j_iload_n (i := 2) (x := x2) (q := 38) d_Bri_find_37 rfl rfl rfl ?_
        refine j_iload_n (i := 3) (x := x3) (q := 39) d_Bri_find_38 rfl rfl rfl ?_
        refine j_callVNi (a := 8) (S := []) (q := 42) [.int x1, .int x2, .int x3] d_Bri_find_39 mw_Fin_add mv_Fin_add ml_Bri_214 ob_8 rfl rfl (c_Fin_add hK x1 x2 x3 X7 Y8) ⟨⟨rfl, rfl⟩, ⟨Nat.le_of_ble_eq_true rfl, Nat.le_of_ble_eq_true rfl⟩, ⟨Nat.le_refl 0, Nat.le_refl 0⟩⟩ (Nat.le_of_ble_eq_true rfl) rfl (fun r12 X10 Y11 => ?_)
        exact j_iret d_Bri_find_42
      · refine j_bipush (v := -2) (q := 31) d_Bri_find_29 (by decide +kernel) rfl ?_
        exact j_iret d_Bri_find_31
def f_Bri_forget (X : HI) (Y : HL) : Option Out :=
    bi (f_Fin_clear X Y) (fun r3 X1 Y2 =>
    (rI r3 X1 Y2))
set_option maxRecDepth 4000 in
theorem c_Bri_forget {K : KK} (hK : kOK K) (X : HI) (Y : HL) : CT K y_Bri_forget prog_1_method_22_code 1 (some .int) rm_Bri_forget [.ref 0] X Y (f_Bri_forget X Y) := by
  refine ct_of hK (L := [some (.ref 0)]) (by decide) ⟨rfl, trivial⟩ (Nat.le_of_ble_eq_true rfl) ?_
  unfold f_Bri_forget
  refine j_aload_n (i := 0) (x := 0) (q := 1) d_Bri_forget_0 rfl rfl rfl ?_
  refine j_get (v := .ref 8) (q := 4) d_Bri_forget_1 fk_Bri_45 fv_0_5 rfl ?_
  refine j_callVNi (a := 8) (S := []) (q := 7) [] d_Bri_forget_4 mw_Fin_clear mv_Fin_clear ml_Bri_218 ob_8 rfl rfl (c_Fin_clear hK X Y) ⟨⟨rfl, rfl⟩, ⟨Nat.le_of_ble_eq_true rfl, Nat.le_of_ble_eq_true rfl⟩, ⟨Nat.le_refl 0, Nat.le_refl 0⟩⟩ (Nat.le_of_ble_eq_true rfl) rfl (fun r3 X1 Y2 => ?_)
  exact j_iret d_Bri_forget_7
def b_Bri_salts_51 (kc : Int32 → Int32 → Int32 → HI → HL → Option Out) (kx : Int32 → Int32 → Int32 → HI → HL → Option Out) (x1 : Int32) (x2 : Int32) (x3 : Int32) (x4 : Int32) (X : HI) (Y : HL) : Option Out :=
    (kc x2 x3 (x4 + (1 : Int32)) X Y)
def l_Bri_salts_20 (x1 : Int32) (kx : Int32 → Int32 → Int32 → HI → HL → Option Out) : Nat → Int32 → Int32 → Int32 → HI → HL → Option Out
  | 0, _, _, _, _, _ => none
  | n + 1, m2, m3, m4, X, Y =>
    (if (100 : Int32) ≤ m4 then
    (kx m2 m3 m4 X Y)
    else
    bi (f_Fin_allow m4 X Y) (fun r6 X4 Y5 =>
    (if r6 = 0 then
    (b_Bri_salts_51 (fun a2 a3 a4 A B => l_Bri_salts_20 x1 kx n a2 a3 a4 A B) kx x1 m2 m3 m4 X4 Y5)
    else
    (if m3 = (-9 : Int32) then
    (b_Bri_salts_51 (fun a2 a3 a4 A B => l_Bri_salts_20 x1 kx n a2 a3 a4 A B) kx x1 (m2 + (1 : Int32)) m4 m4 X4 Y5)
    else
    (b_Bri_salts_51 (fun a2 a3 a4 A B => l_Bri_salts_20 x1 kx n a2 a3 a4 A B) kx x1 (m2 + (1 : Int32)) m3 m4 X4 Y5)))))
def f_Bri_salts (x1 : Int32) (X : HI) (Y : HL) : Option Out :=
    bi (f_Bri_isFromTo x1 (0 : Int32) (1 : Int32) X Y) (fun r3 X1 Y2 =>
    (if r3 = 0 then
    (rI (-2 : Int32) X1 Y2)
    else
    (l_Bri_salts_20 x1 (fun w7 w8 w9 X10 Y11 =>
    (if x1 = 0 then
    (rI w7 X10 Y11)
    else
    (rI w8 X10 Y11))) 256 (0 : Int32) (-9 : Int32) (0 : Int32) X1 Y2)))
set_option maxRecDepth 4000 in
theorem jb_Bri_salts_51 {K : KK} (hK : kOK K) (kc : Int32 → Int32 → Int32 → HI → HL → Option Out) (kx : Int32 → Int32 → Int32 → HI → HL → Option Out) (x1 : Int32) (x2 : Int32) (x3 : Int32) (x4 : Int32) (hkc : ∀ (m2 : Int32) (m3 : Int32) (m4 : Int32) (X : HI) (Y : HL), JO K "BrinePans" prog_1_method_23_code 5 (some .int) rm_Bri_salts 0 0 (MZ K) 20 [some (.ref 0), some (.int x1), some (.int m2), some (.int m3), some (.int m4)] [] X Y (kc m2 m3 m4 X Y)) (hkx : ∀ (m2 : Int32) (m3 : Int32) (m4 : Int32) (X : HI) (Y : HL), JO K "BrinePans" prog_1_method_23_code 5 (some .int) rm_Bri_salts 0 0 (MZ K) 57 [none, some (.int x1), some (.int m2), some (.int m3), none] [] X Y (kx m2 m3 m4 X Y)) (X : HI) (Y : HL) : JO K "BrinePans" prog_1_method_23_code 5 (some .int) rm_Bri_salts 0 0 (MZ K) 51 [some (.ref 0), some (.int x1), some (.int x2), some (.int x3), some (.int x4)] [] X Y (b_Bri_salts_51 kc kx x1 x2 x3 x4 X Y) := by
  unfold b_Bri_salts_51
  refine j_iinc (i := 4) (x := x4) (d := 1) (L' := [some (.ref 0), some (.int x1), some (.int x2), some (.int x3), some (.int (x4 + (1 : Int32)))]) (q := 54) d_Bri_salts_51 rfl (by decide) (by decide) rfl rfl rfl ?_
  refine j_goto (q := 20) d_Bri_salts_54 (by decide) ?_
  refine j_sub (L' := [some (.ref 0), some (.int x1), some (.int x2), some (.int x3), some (.int (x4 + (1 : Int32)))]) ⟨rfl, ⟨rfl, ⟨rfl, ⟨rfl, ⟨rfl, trivial⟩⟩⟩⟩⟩ ?_
  exact hkc x2 x3 (x4 + (1 : Int32)) X Y
set_option maxRecDepth 4000 in
theorem jl_Bri_salts_20 {K : KK} (hK : kOK K) (x1 : Int32) (kx : Int32 → Int32 → Int32 → HI → HL → Option Out) (hkx : ∀ (m2 : Int32) (m3 : Int32) (m4 : Int32) (X : HI) (Y : HL), JO K "BrinePans" prog_1_method_23_code 5 (some .int) rm_Bri_salts 0 0 (MZ K) 57 [none, some (.int x1), some (.int m2), some (.int m3), none] [] X Y (kx m2 m3 m4 X Y)) : ∀ (n : Nat) (m2 : Int32) (m3 : Int32) (m4 : Int32) (X : HI) (Y : HL), JO K "BrinePans" prog_1_method_23_code 5 (some .int) rm_Bri_salts 0 0 (MZ K) 20 [some (.ref 0), some (.int x1), some (.int m2), some (.int m3), some (.int m4)] [] X Y (l_Bri_salts_20 x1 kx n m2 m3 m4 X Y) := by
  intro n
  induction n with
  | zero =>
    intro m2 m3 m4 X Y
    rw [l_Bri_salts_20]
    exact j_none
  | succ n ih =>
    intro m2 m3 m4 X Y
    rw [l_Bri_salts_20]
    refine j_iload (i := 4) (x := m4) (q := 22) d_Bri_salts_20 rfl rfl ?_
    refine j_bipush (v := 100) (q := 24) d_Bri_salts_22 (by decide +kernel) rfl ?_
    refine j_icmp_ge (t := 57) (q := 27) d_Bri_salts_24 (by decide) rfl ?_ ?_
    · refine j_sub (L' := [none, some (.int x1), some (.int m2), some (.int m3), none]) ⟨rfl, ⟨rfl, ⟨rfl, trivial⟩⟩⟩ ?_
      exact hkx m2 m3 m4 X Y
    · refine j_aload_n (i := 0) (x := 0) (q := 28) d_Bri_salts_27 rfl rfl rfl ?_
      refine j_get (v := .ref 8) (q := 31) d_Bri_salts_28 fk_Bri_45 fv_0_5 rfl ?_
      refine j_iload (i := 4) (x := m4) (q := 33) d_Bri_salts_31 rfl rfl ?_
      refine j_callVNi (a := 8) (S := []) (q := 36) [.int m4] d_Bri_salts_33 mw_Fin_allow mv_Fin_allow ml_Bri_219 ob_8 rfl rfl (c_Fin_allow hK m4 X Y) ⟨⟨rfl, rfl⟩, ⟨Nat.le_of_ble_eq_true rfl, Nat.le_of_ble_eq_true rfl⟩, ⟨Nat.le_refl 0, Nat.le_refl 0⟩⟩ (Nat.le_of_ble_eq_true rfl) rfl (fun r6 X4 Y5 => ?_)
      refine j_if_eq (t := 51) (q := 39) d_Bri_salts_36 (by decide) rfl ?_ ?_
      · refine j_sub (L' := [some (.ref 0), some (.int x1), some (.int m2), some (.int m3), some (.int m4)]) ⟨rfl, ⟨rfl, ⟨rfl, ⟨rfl, ⟨rfl, trivial⟩⟩⟩⟩⟩ ?_
        exact jb_Bri_salts_51 hK (fun a2 a3 a4 A B => l_Bri_salts_20 x1 kx n a2 a3 a4 A B) kx x1 m2 m3 m4 ih hkx X4 Y5
      · refine j_iinc (i := 2) (x := m2) (d := 1) (L' := [some (.ref 0), some (.int x1), some (.int (m2 + (1 : Int32))), some (.int m3), some (.int m4)]) (q := 42) d_Bri_salts_39 rfl (by decide) (by decide) rfl rfl rfl ?_
        refine j_iload_n (i := 3) (x := m3) (q := 43) d_Bri_salts_42 rfl rfl rfl ?_
        refine j_bipush (v := -9) (q := 45) d_Bri_salts_43 (by decide +kernel) rfl ?_
        refine j_icmp_ne (t := 51) (q := 48) d_Bri_salts_45 (by decide) rfl ?_ ?_
        · refine j_sub (L' := [some (.ref 0), some (.int x1), some (.int (m2 + (1 : Int32))), some (.int m3), some (.int m4)]) ⟨rfl, ⟨rfl, ⟨rfl, ⟨rfl, ⟨rfl, trivial⟩⟩⟩⟩⟩ ?_
          exact jb_Bri_salts_51 hK (fun a2 a3 a4 A B => l_Bri_salts_20 x1 kx n a2 a3 a4 A B) kx x1 (m2 + (1 : Int32)) m3 m4 ih hkx X4 Y5
        · refine j_iload (i := 4) (x := m4) (q := 50) d_Bri_salts_48 rfl rfl ?_
          refine j_istore_n (i := 3) (L' := [some (.ref 0), some (.int x1), some (.int (m2 + (1 : Int32))), some (.int m4), some (.int m4)]) (q := 51) d_Bri_salts_50 rfl (by decide) rfl rfl rfl ?_
          refine j_sub (L' := [some (.ref 0), some (.int x1), some (.int (m2 + (1 : Int32))), some (.int m4), some (.int m4)]) ⟨rfl, ⟨rfl, ⟨rfl, ⟨rfl, ⟨rfl, trivial⟩⟩⟩⟩⟩ ?_
          exact jb_Bri_salts_51 hK (fun a2 a3 a4 A B => l_Bri_salts_20 x1 kx n a2 a3 a4 A B) kx x1 (m2 + (1 : Int32)) m4 m4 ih hkx X4 Y5
set_option maxRecDepth 4000 in
theorem c_Bri_salts {K : KK} (hK : kOK K) (x1 : Int32) (X : HI) (Y : HL) : CT K y_Bri_salts prog_1_method_23_code 5 (some .int) rm_Bri_salts [.ref 0, .int x1] X Y (f_Bri_salts x1 X Y) := by
  refine ct_of hK (L := [some (.ref 0), some (.int x1), none, none, none]) (by decide) ⟨rfl, ⟨rfl, trivial⟩⟩ (Nat.le_of_ble_eq_true rfl) ?_
  unfold f_Bri_salts
  refine j_iload_n (i := 1) (x := x1) (q := 1) d_Bri_salts_0 rfl rfl rfl ?_
  refine j_iconst (v := 0) (q := 2) d_Bri_salts_1 (by decide) rfl ?_
  refine j_iconst (v := 1) (q := 3) d_Bri_salts_2 (by decide) rfl ?_
  refine j_callSi (S := []) (q := 6) [.int x1, .int (0 : Int32), .int (1 : Int32)] d_Bri_salts_3 mw_Bri_isFromTo ms_Bri_isFromTo ml_Bri_171 rfl rfl (c_Bri_isFromTo hK x1 (0 : Int32) (1 : Int32) X Y) ⟨⟨rfl, rfl⟩, ⟨Nat.le_of_ble_eq_true rfl, Nat.le_of_ble_eq_true rfl⟩, ⟨Nat.le_refl 0, Nat.le_refl 0⟩⟩ (Nat.le_of_ble_eq_true rfl) rfl (fun r3 X1 Y2 => ?_)
  refine j_if_ne (t := 12) (q := 9) d_Bri_salts_6 (by decide) rfl ?_ ?_
  · refine j_iconst (v := 0) (q := 13) d_Bri_salts_12 (by decide) rfl ?_
    refine j_istore_n (i := 2) (L' := [some (.ref 0), some (.int x1), some (.int (0 : Int32)), none, none]) (q := 14) d_Bri_salts_13 rfl (by decide) rfl rfl rfl ?_
    refine j_bipush (v := -9) (q := 16) d_Bri_salts_14 (by decide +kernel) rfl ?_
    refine j_istore_n (i := 3) (L' := [some (.ref 0), some (.int x1), some (.int (0 : Int32)), some (.int (-9 : Int32)), none]) (q := 17) d_Bri_salts_16 rfl (by decide) rfl rfl rfl ?_
    refine j_iconst (v := 0) (q := 18) d_Bri_salts_17 (by decide) rfl ?_
    refine j_istore (i := 4) (L' := [some (.ref 0), some (.int x1), some (.int (0 : Int32)), some (.int (-9 : Int32)), some (.int (0 : Int32))]) (q := 20) d_Bri_salts_18 (by decide) rfl rfl rfl ?_
    refine j_sub (L' := [some (.ref 0), some (.int x1), some (.int (0 : Int32)), some (.int (-9 : Int32)), some (.int (0 : Int32))]) ⟨rfl, ⟨rfl, ⟨rfl, ⟨rfl, ⟨rfl, trivial⟩⟩⟩⟩⟩ ?_
    refine jl_Bri_salts_20 hK x1 _ (fun w7 w8 w9 X10 Y11 => ?_) 256 (0 : Int32) (-9 : Int32) (0 : Int32) X1 Y2
    refine j_iload_n (i := 1) (x := x1) (q := 58) d_Bri_salts_57 rfl rfl rfl ?_
    refine j_if_ne (t := 65) (q := 61) d_Bri_salts_58 (by decide) rfl ?_ ?_
    · refine j_iload_n (i := 3) (x := w8) (q := 66) d_Bri_salts_65 rfl rfl rfl ?_
      exact j_iret d_Bri_salts_66
    · refine j_iload_n (i := 2) (x := w7) (q := 62) d_Bri_salts_61 rfl rfl rfl ?_
      refine j_goto (q := 66) d_Bri_salts_62 (by decide) ?_
      exact j_iret d_Bri_salts_66
  · refine j_bipush (v := -2) (q := 11) d_Bri_salts_9 (by decide +kernel) rfl ?_
    exact j_iret d_Bri_salts_11
def f_Bri_isAtRest (x1 : Int32) (X : HI) (Y : HL) : Option Out :=
    gd (ixb ((2 : Int32) * (x1 ^^^ (2 : Int32))) 8) (
    gd (ixb ((2 : Int32) * x1) 8) (
    (if (X 15 ((2 : Int32) * x1).toNatClampNeg) < (X 15 ((2 : Int32) * (x1 ^^^ (2 : Int32))).toNatClampNeg) then
    (rI (0 : Int32) X Y)
    else
    gd (ixb (((2 : Int32) * (x1 ^^^ (1 : Int32))) + (1 : Int32)) 8) (
    gd (ixb (((2 : Int32) * x1) + (1 : Int32)) 8) (
    (if (X 15 (((2 : Int32) * x1) + (1 : Int32)).toNatClampNeg) < (X 15 (((2 : Int32) * (x1 ^^^ (1 : Int32))) + (1 : Int32)).toNatClampNeg) then
    (rI (0 : Int32) X Y)
    else
    (rI (1 : Int32) X Y)))))))
set_option maxRecDepth 4000 in
theorem c_Bri_isAtRest {K : KK} (hK : kOK K) (x1 : Int32) (X : HI) (Y : HL) : CT K y_Bri_isAtRest prog_1_method_33_code 2 (some .boolean) rm_Bri_isAtRest [.ref 0, .int x1] X Y (f_Bri_isAtRest x1 X Y) := by
  refine ct_of hK (L := [some (.ref 0), some (.int x1)]) (by decide) ⟨rfl, ⟨rfl, trivial⟩⟩ (Nat.le_of_ble_eq_true rfl) ?_
  unfold f_Bri_isAtRest
  refine j_aload_n (i := 0) (x := 0) (q := 1) d_Bri_isAtRest_0 rfl rfl rfl ?_
  refine j_get (v := .ref 15) (q := 4) d_Bri_isAtRest_1 fk_Bri_61 fv_0_9 rfl ?_
  refine j_iconst (v := 2) (q := 5) d_Bri_isAtRest_4 (by decide) rfl ?_
  refine j_iload_n (i := 1) (x := x1) (q := 6) d_Bri_isAtRest_5 rfl rfl rfl ?_
  refine j_iconst (v := 2) (q := 7) d_Bri_isAtRest_6 (by decide) rfl ?_
  refine j_ixor (q := 8) d_Bri_isAtRest_7 rfl ?_
  refine j_imul (q := 9) d_Bri_isAtRest_8 rfl ?_
  refine j_iald (q := 10) d_Bri_isAtRest_9 ai_15 rfl ?_
  refine j_aload_n (i := 0) (x := 0) (q := 11) d_Bri_isAtRest_10 rfl rfl rfl ?_
  refine j_get (v := .ref 15) (q := 14) d_Bri_isAtRest_11 fk_Bri_61 fv_0_9 rfl ?_
  refine j_iconst (v := 2) (q := 15) d_Bri_isAtRest_14 (by decide) rfl ?_
  refine j_iload_n (i := 1) (x := x1) (q := 16) d_Bri_isAtRest_15 rfl rfl rfl ?_
  refine j_imul (q := 17) d_Bri_isAtRest_16 rfl ?_
  refine j_iald (q := 18) d_Bri_isAtRest_17 ai_15 rfl ?_
  refine j_icmp_gt (t := 50) (q := 21) d_Bri_isAtRest_18 (by decide) rfl ?_ ?_
  · refine j_iconst (v := 0) (q := 51) d_Bri_isAtRest_50 (by decide) rfl ?_
    exact j_zret d_Bri_isAtRest_51 (by decide)
  · refine j_aload_n (i := 0) (x := 0) (q := 22) d_Bri_isAtRest_21 rfl rfl rfl ?_
    refine j_get (v := .ref 15) (q := 25) d_Bri_isAtRest_22 fk_Bri_61 fv_0_9 rfl ?_
    refine j_iconst (v := 2) (q := 26) d_Bri_isAtRest_25 (by decide) rfl ?_
    refine j_iload_n (i := 1) (x := x1) (q := 27) d_Bri_isAtRest_26 rfl rfl rfl ?_
    refine j_iconst (v := 1) (q := 28) d_Bri_isAtRest_27 (by decide) rfl ?_
    refine j_ixor (q := 29) d_Bri_isAtRest_28 rfl ?_
    refine j_imul (q := 30) d_Bri_isAtRest_29 rfl ?_
    refine j_iconst (v := 1) (q := 31) d_Bri_isAtRest_30 (by decide) rfl ?_
    refine j_iadd (q := 32) d_Bri_isAtRest_31 rfl ?_
    refine j_iald (q := 33) d_Bri_isAtRest_32 ai_15 rfl ?_
    refine j_aload_n (i := 0) (x := 0) (q := 34) d_Bri_isAtRest_33 rfl rfl rfl ?_
    refine j_get (v := .ref 15) (q := 37) d_Bri_isAtRest_34 fk_Bri_61 fv_0_9 rfl ?_
    refine j_iconst (v := 2) (q := 38) d_Bri_isAtRest_37 (by decide) rfl ?_
    refine j_iload_n (i := 1) (x := x1) (q := 39) d_Bri_isAtRest_38 rfl rfl rfl ?_
    refine j_imul (q := 40) d_Bri_isAtRest_39 rfl ?_
    refine j_iconst (v := 1) (q := 41) d_Bri_isAtRest_40 (by decide) rfl ?_
    refine j_iadd (q := 42) d_Bri_isAtRest_41 rfl ?_
    refine j_iald (q := 43) d_Bri_isAtRest_42 ai_15 rfl ?_
    refine j_icmp_gt (t := 50) (q := 46) d_Bri_isAtRest_43 (by decide) rfl ?_ ?_
    · refine j_iconst (v := 0) (q := 51) d_Bri_isAtRest_50 (by decide) rfl ?_
      exact j_zret d_Bri_isAtRest_51 (by decide)
    · refine j_iconst (v := 1) (q := 47) d_Bri_isAtRest_46 (by decide) rfl ?_
      refine j_goto (q := 51) d_Bri_isAtRest_47 (by decide) ?_
      exact j_zret d_Bri_isAtRest_51 (by decide)
def b_Bri_weigh_39 (x1 : Int32) (x2 : Int32) (x3 : Int32) (s0 : Int32) (s1 : Int32) (X : HI) (Y : HL) : Option Out :=
    bv (f_Pan_setGate 19 s1 s0 X Y) (fun X5 Y6 =>
    bv (f_Pan_passDays 19 (3 : Int32) X5 Y6) (fun X7 Y8 =>
    bi (f_Pan_crustOf 19 x2 X7 Y8) (fun r11 X9 Y10 =>
    gd (ixb (x2 + (1 : Int32)) 6) (
    wr (ixb ((2 : Int32) * x1) 8) (up X9 15 ((2 : Int32) * x1).toNatClampNeg (r11 + (X9 20 (x2 + (1 : Int32)).toNatClampNeg))) (fun X12 =>
    bi (f_Pan_crustOf 19 x3 X12 Y10) (fun r15 X13 Y14 =>
    gd (ixb (x3 + (1 : Int32)) 6) (
    wr (ixb (((2 : Int32) * x1) + (1 : Int32)) 8) (up X13 15 (((2 : Int32) * x1) + (1 : Int32)).toNatClampNeg (r15 + (X13 20 (x3 + (1 : Int32)).toNatClampNeg))) (fun X16 =>
    (rV X16 Y14)))))))))
def b_Bri_weigh_21 (x1 : Int32) (x2 : Int32) (x3 : Int32) (s0 : Int32) (s1 : Int32) (X : HI) (Y : HL) : Option Out :=
    bv (f_Pan_setGate 19 s1 s0 X Y) (fun X3 Y4 =>
    (if (x1 &&& (1 : Int32)) = (1 : Int32) then
    (b_Bri_weigh_39 x1 x2 x3 (1 : Int32) x3 X3 Y4)
    else
    (b_Bri_weigh_39 x1 x2 x3 (0 : Int32) x3 X3 Y4)))
def f_Bri_weigh (x1 : Int32) (x2 : Int32) (x3 : Int32) (X : HI) (Y : HL) : Option Out :=
    br 19 (f_Bri_fromNow X Y) (fun X1 Y2 =>
    (if (x1 >>> ((1 : Int32) &&& 31)) = (1 : Int32) then
    (b_Bri_weigh_21 x1 x2 x3 (1 : Int32) x2 X1 Y2)
    else
    (b_Bri_weigh_21 x1 x2 x3 (0 : Int32) x2 X1 Y2)))
set_option maxRecDepth 4000 in
theorem jb_Bri_weigh_39 {K : KK} (hK : kOK K) (x1 : Int32) (x2 : Int32) (x3 : Int32) (s0 : Int32) (s1 : Int32) (X : HI) (Y : HL) : JO K "BrinePans" prog_1_method_32_code 5 none rm_Bri_weigh 0 0 (MZ K) 39 [some (.ref 0), some (.int x1), some (.int x2), some (.int x3), some (.ref 19)] [.int s0, .int s1, .ref 19] X Y (b_Bri_weigh_39 x1 x2 x3 s0 s1 X Y) := by
  unfold b_Bri_weigh_39
  refine j_callVNv (a := 19) (S := []) (q := 42) [.int s1, .int s0] d_Bri_weigh_39 mw_Pan_setGate mv_Pan_setGate ml_Bri_247 (ob_P isP_19) rfl rfl (c_Pan_setGate hK 19 isP_19 s1 s0 X Y) ⟨⟨rfl, rfl⟩, ⟨Nat.le_of_ble_eq_true rfl, Nat.le_of_ble_eq_true rfl⟩, ⟨Nat.le_refl 0, Nat.le_refl 0⟩⟩ (Nat.le_of_ble_eq_true rfl) rfl (fun X5 Y6 => ?_)
  refine j_aload (i := 4) (x := 19) (q := 44) d_Bri_weigh_42 rfl rfl ?_
  refine j_iconst (v := 3) (q := 45) d_Bri_weigh_44 (by decide) rfl ?_
  refine j_callVNv (a := 19) (S := []) (q := 48) [.int (3 : Int32)] d_Bri_weigh_45 mw_Pan_passDays mv_Pan_passDays ml_Bri_175 (ob_P isP_19) rfl rfl (c_Pan_passDays hK 19 isP_19 (3 : Int32) X5 Y6) ⟨⟨rfl, rfl⟩, ⟨Nat.le_of_ble_eq_true rfl, Nat.le_of_ble_eq_true rfl⟩, ⟨Nat.le_refl 0, Nat.le_refl 0⟩⟩ (Nat.le_of_ble_eq_true rfl) rfl (fun X7 Y8 => ?_)
  refine j_aload_n (i := 0) (x := 0) (q := 49) d_Bri_weigh_48 rfl rfl rfl ?_
  refine j_get (v := .ref 15) (q := 52) d_Bri_weigh_49 fk_Bri_61 fv_0_9 rfl ?_
  refine j_iconst (v := 2) (q := 53) d_Bri_weigh_52 (by decide) rfl ?_
  refine j_iload_n (i := 1) (x := x1) (q := 54) d_Bri_weigh_53 rfl rfl rfl ?_
  refine j_imul (q := 55) d_Bri_weigh_54 rfl ?_
  refine j_aload (i := 4) (x := 19) (q := 57) d_Bri_weigh_55 rfl rfl ?_
  refine j_iload_n (i := 2) (x := x2) (q := 58) d_Bri_weigh_57 rfl rfl rfl ?_
  refine j_callVNi (a := 19) (S := [.int ((2 : Int32) * x1), .ref 15]) (q := 61) [.int x2] d_Bri_weigh_58 mw_Pan_crustOf mv_Pan_crustOf ml_Bri_137 (ob_P isP_19) rfl rfl (c_Pan_crustOf hK 19 isP_19 x2 X7 Y8) ⟨⟨rfl, rfl⟩, ⟨Nat.le_of_ble_eq_true rfl, Nat.le_of_ble_eq_true rfl⟩, ⟨Nat.le_refl 0, Nat.le_refl 0⟩⟩ (Nat.le_of_ble_eq_true rfl) rfl (fun r11 X9 Y10 => ?_)
  refine j_aload (i := 4) (x := 19) (q := 63) d_Bri_weigh_61 rfl rfl ?_
  refine j_get (v := .ref 20) (q := 66) d_Bri_weigh_63 fk_Bri_104 (fv_P1 isP_19) rfl ?_
  refine j_iload_n (i := 2) (x := x2) (q := 67) d_Bri_weigh_66 rfl rfl rfl ?_
  refine j_iconst (v := 1) (q := 68) d_Bri_weigh_67 (by decide) rfl ?_
  refine j_iadd (q := 69) d_Bri_weigh_68 rfl ?_
  refine j_iald (q := 70) d_Bri_weigh_69 ai_20 rfl ?_
  refine j_iadd (q := 71) d_Bri_weigh_70 rfl ?_
  refine j_iast (q := 72) d_Bri_weigh_71 ai_15 rfl (fun X12 => ?_)
  refine j_aload_n (i := 0) (x := 0) (q := 73) d_Bri_weigh_72 rfl rfl rfl ?_
  refine j_get (v := .ref 15) (q := 76) d_Bri_weigh_73 fk_Bri_61 fv_0_9 rfl ?_
  refine j_iconst (v := 2) (q := 77) d_Bri_weigh_76 (by decide) rfl ?_
  refine j_iload_n (i := 1) (x := x1) (q := 78) d_Bri_weigh_77 rfl rfl rfl ?_
  refine j_imul (q := 79) d_Bri_weigh_78 rfl ?_
  refine j_iconst (v := 1) (q := 80) d_Bri_weigh_79 (by decide) rfl ?_
  refine j_iadd (q := 81) d_Bri_weigh_80 rfl ?_
  refine j_aload (i := 4) (x := 19) (q := 83) d_Bri_weigh_81 rfl rfl ?_
  refine j_iload_n (i := 3) (x := x3) (q := 84) d_Bri_weigh_83 rfl rfl rfl ?_
  refine j_callVNi (a := 19) (S := [.int (((2 : Int32) * x1) + (1 : Int32)), .ref 15]) (q := 87) [.int x3] d_Bri_weigh_84 mw_Pan_crustOf mv_Pan_crustOf ml_Bri_137 (ob_P isP_19) rfl rfl (c_Pan_crustOf hK 19 isP_19 x3 X12 Y10) ⟨⟨rfl, rfl⟩, ⟨Nat.le_of_ble_eq_true rfl, Nat.le_of_ble_eq_true rfl⟩, ⟨Nat.le_refl 0, Nat.le_refl 0⟩⟩ (Nat.le_of_ble_eq_true rfl) rfl (fun r15 X13 Y14 => ?_)
  refine j_aload (i := 4) (x := 19) (q := 89) d_Bri_weigh_87 rfl rfl ?_
  refine j_get (v := .ref 20) (q := 92) d_Bri_weigh_89 fk_Bri_104 (fv_P1 isP_19) rfl ?_
  refine j_iload_n (i := 3) (x := x3) (q := 93) d_Bri_weigh_92 rfl rfl rfl ?_
  refine j_iconst (v := 1) (q := 94) d_Bri_weigh_93 (by decide) rfl ?_
  refine j_iadd (q := 95) d_Bri_weigh_94 rfl ?_
  refine j_iald (q := 96) d_Bri_weigh_95 ai_20 rfl ?_
  refine j_iadd (q := 97) d_Bri_weigh_96 rfl ?_
  refine j_iast (q := 98) d_Bri_weigh_97 ai_15 rfl (fun X16 => ?_)
  exact j_vret d_Bri_weigh_98
set_option maxRecDepth 4000 in
theorem jb_Bri_weigh_21 {K : KK} (hK : kOK K) (x1 : Int32) (x2 : Int32) (x3 : Int32) (s0 : Int32) (s1 : Int32) (X : HI) (Y : HL) : JO K "BrinePans" prog_1_method_32_code 5 none rm_Bri_weigh 0 0 (MZ K) 21 [some (.ref 0), some (.int x1), some (.int x2), some (.int x3), some (.ref 19)] [.int s0, .int s1, .ref 19] X Y (b_Bri_weigh_21 x1 x2 x3 s0 s1 X Y) := by
  unfold b_Bri_weigh_21
  refine j_callVNv (a := 19) (S := []) (q := 24) [.int s1, .int s0] d_Bri_weigh_21 mw_Pan_setGate mv_Pan_setGate ml_Bri_247 (ob_P isP_19) rfl rfl (c_Pan_setGate hK 19 isP_19 s1 s0 X Y) ⟨⟨rfl, rfl⟩, ⟨Nat.le_of_ble_eq_true rfl, Nat.le_of_ble_eq_true rfl⟩, ⟨Nat.le_refl 0, Nat.le_refl 0⟩⟩ (Nat.le_of_ble_eq_true rfl) rfl (fun X3 Y4 => ?_)
  refine j_aload (i := 4) (x := 19) (q := 26) d_Bri_weigh_24 rfl rfl ?_
  refine j_iload_n (i := 3) (x := x3) (q := 27) d_Bri_weigh_26 rfl rfl rfl ?_
  refine j_iload_n (i := 1) (x := x1) (q := 28) d_Bri_weigh_27 rfl rfl rfl ?_
  refine j_iconst (v := 1) (q := 29) d_Bri_weigh_28 (by decide) rfl ?_
  refine j_iand (q := 30) d_Bri_weigh_29 rfl ?_
  refine j_iconst (v := 1) (q := 31) d_Bri_weigh_30 (by decide) rfl ?_
  refine j_icmp_ne (t := 38) (q := 34) d_Bri_weigh_31 (by decide) rfl ?_ ?_
  · refine j_iconst (v := 0) (q := 39) d_Bri_weigh_38 (by decide) rfl ?_
    refine j_sub (L' := [some (.ref 0), some (.int x1), some (.int x2), some (.int x3), some (.ref 19)]) ⟨rfl, ⟨rfl, ⟨rfl, ⟨rfl, ⟨rfl, trivial⟩⟩⟩⟩⟩ ?_
    exact jb_Bri_weigh_39 hK x1 x2 x3 (0 : Int32) x3 X3 Y4
  · refine j_iconst (v := 1) (q := 35) d_Bri_weigh_34 (by decide) rfl ?_
    refine j_goto (q := 39) d_Bri_weigh_35 (by decide) ?_
    refine j_sub (L' := [some (.ref 0), some (.int x1), some (.int x2), some (.int x3), some (.ref 19)]) ⟨rfl, ⟨rfl, ⟨rfl, ⟨rfl, ⟨rfl, trivial⟩⟩⟩⟩⟩ ?_
    exact jb_Bri_weigh_39 hK x1 x2 x3 (1 : Int32) x3 X3 Y4
set_option maxRecDepth 4000 in
theorem c_Bri_weigh {K : KK} (hK : kOK K) (x1 : Int32) (x2 : Int32) (x3 : Int32) (X : HI) (Y : HL) : CT K y_Bri_weigh prog_1_method_32_code 5 none rm_Bri_weigh [.ref 0, .int x1, .int x2, .int x3] X Y (f_Bri_weigh x1 x2 x3 X Y) := by
  refine ct_of hK (L := [some (.ref 0), some (.int x1), some (.int x2), some (.int x3), none]) (by decide) ⟨rfl, ⟨rfl, ⟨rfl, ⟨rfl, trivial⟩⟩⟩⟩ (Nat.le_of_ble_eq_true rfl) ?_
  unfold f_Bri_weigh
  refine j_aload_n (i := 0) (x := 0) (q := 1) d_Bri_weigh_0 rfl rfl rfl ?_
  refine j_callVr (a := 0) (ra := 19) (S := []) (q := 4) [] d_Bri_weigh_1 mw_Bri_fromNow mv_Bri_fromNow ml_Bri_143 ob_0 rfl rfl (c_Bri_fromNow hK X Y) ⟨⟨rfl, rfl⟩, ⟨Nat.le_of_ble_eq_true rfl, Nat.le_of_ble_eq_true rfl⟩, ⟨Nat.le_refl 0, Nat.le_refl 0⟩⟩ (Nat.le_of_ble_eq_true rfl) rfl (fun X1 Y2 => ?_)
  refine j_astore (i := 4) (L' := [some (.ref 0), some (.int x1), some (.int x2), some (.int x3), some (.ref 19)]) (q := 6) d_Bri_weigh_4 (by decide) rfl rfl rfl ?_
  refine j_aload (i := 4) (x := 19) (q := 8) d_Bri_weigh_6 rfl rfl ?_
  refine j_iload_n (i := 2) (x := x2) (q := 9) d_Bri_weigh_8 rfl rfl rfl ?_
  refine j_iload_n (i := 1) (x := x1) (q := 10) d_Bri_weigh_9 rfl rfl rfl ?_
  refine j_iconst (v := 1) (q := 11) d_Bri_weigh_10 (by decide) rfl ?_
  refine j_ishr (q := 12) d_Bri_weigh_11 rfl ?_
  refine j_iconst (v := 1) (q := 13) d_Bri_weigh_12 (by decide) rfl ?_
  refine j_icmp_ne (t := 20) (q := 16) d_Bri_weigh_13 (by decide) rfl ?_ ?_
  · refine j_iconst (v := 0) (q := 21) d_Bri_weigh_20 (by decide) rfl ?_
    refine j_sub (L' := [some (.ref 0), some (.int x1), some (.int x2), some (.int x3), some (.ref 19)]) ⟨rfl, ⟨rfl, ⟨rfl, ⟨rfl, ⟨rfl, trivial⟩⟩⟩⟩⟩ ?_
    exact jb_Bri_weigh_21 hK x1 x2 x3 (0 : Int32) x2 X1 Y2
  · refine j_iconst (v := 1) (q := 17) d_Bri_weigh_16 (by decide) rfl ?_
    refine j_goto (q := 21) d_Bri_weigh_17 (by decide) ?_
    refine j_sub (L' := [some (.ref 0), some (.int x1), some (.int x2), some (.int x3), some (.ref 19)]) ⟨rfl, ⟨rfl, ⟨rfl, ⟨rfl, ⟨rfl, trivial⟩⟩⟩⟩⟩ ?_
    exact jb_Bri_weigh_21 hK x1 x2 x3 (1 : Int32) x2 X1 Y2
def l_Bri_rests_44 (x1 : Int32) (x2 : Int32) (x3 : Int32) (kx : Int32 → HI → HL → Option Out) : Nat → Int32 → HI → HL → Option Out
  | 0, _, _, _ => none
  | n + 1, m4, X, Y =>
    (if (4 : Int32) ≤ m4 then
    (kx m4 X Y)
    else
    bv (f_Bri_weigh m4 x1 x2 X Y) (fun X10 Y11 =>
    (l_Bri_rests_44 x1 x2 x3 kx n (m4 + (1 : Int32)) X10 Y11)))
def b_Bri_rests_113 (kc : Int32 → Int32 → Int32 → HI → HL → Option Out) (kx : Int32 → Int32 → Int32 → HI → HL → Option Out) (x3 : Int32) (x4 : Int32) (x5 : Int32) (x6 : Int32) (X : HI) (Y : HL) : Option Out :=
    (kc x4 x5 (x6 + (1 : Int32)) X Y)
def l_Bri_rests_74 (x3 : Int32) (kx : Int32 → Int32 → Int32 → HI → HL → Option Out) : Nat → Int32 → Int32 → Int32 → HI → HL → Option Out
  | 0, _, _, _, _, _ => none
  | n + 1, m4, m5, m6, X, Y =>
    (if (4 : Int32) ≤ m6 then
    (kx m4 m5 m6 X Y)
    else
    bi (f_Bri_isAtRest m6 X Y) (fun r17 X15 Y16 =>
    (if r17 = 0 then
    (b_Bri_rests_113 (fun a4 a5 a6 A B => l_Bri_rests_74 x3 kx n a4 a5 a6 A B) kx x3 m4 m5 m6 X15 Y16)
    else
    (if m5 = (-9 : Int32) then
    lt (((10 : Int32) * (m6 >>> ((1 : Int32) &&& 31))) + (m6 &&& (1 : Int32))) (fun v18 =>
    (b_Bri_rests_113 (fun a4 a5 a6 A B => l_Bri_rests_74 x3 kx n a4 a5 a6 A B) kx x3 (m4 + (1 : Int32)) v18 m6 X15 Y16))
    else
    (b_Bri_rests_113 (fun a4 a5 a6 A B => l_Bri_rests_74 x3 kx n a4 a5 a6 A B) kx x3 (m4 + (1 : Int32)) m5 m6 X15 Y16)))))
def f_Bri_rests (x1 : Int32) (x2 : Int32) (x3 : Int32) (X : HI) (Y : HL) : Option Out :=
    bi (f_Gro_hasGate x1 X Y) (fun r3 X1 Y2 =>
    (if r3 = 0 then
    (rI (-1 : Int32) X1 Y2)
    else
    bi (f_Gro_hasGate x2 X1 Y2) (fun r6 X4 Y5 =>
    (if r6 = 0 then
    (rI (-1 : Int32) X4 Y5)
    else
    (if x1 = x2 then
    (rI (-2 : Int32) X4 Y5)
    else
    bi (f_Bri_isFromTo x3 (0 : Int32) (1 : Int32) X4 Y5) (fun r9 X7 Y8 =>
    (if r9 = 0 then
    (rI (-2 : Int32) X7 Y8)
    else
    (l_Bri_rests_44 x1 x2 x3 (fun w12 X13 Y14 =>
    (l_Bri_rests_74 x3 (fun w19 w20 w21 X22 Y23 =>
    (if x3 = 0 then
    (rI w19 X22 Y23)
    else
    (rI w20 X22 Y23))) 256 (0 : Int32) (-9 : Int32) (0 : Int32) X13 Y14)) 256 (0 : Int32) X7 Y8))))))))
set_option maxRecDepth 4000 in
theorem jl_Bri_rests_44 {K : KK} (hK : kOK K) (x1 : Int32) (x2 : Int32) (x3 : Int32) (kx : Int32 → HI → HL → Option Out) (hkx : ∀ (m4 : Int32) (X : HI) (Y : HL), JO K "BrinePans" prog_1_method_24_code 7 (some .int) rm_Bri_rests 0 0 (MZ K) 64 [some (.ref 0), none, none, some (.int x3), none, none, none] [] X Y (kx m4 X Y)) : ∀ (n : Nat) (m4 : Int32) (X : HI) (Y : HL), JO K "BrinePans" prog_1_method_24_code 7 (some .int) rm_Bri_rests 0 0 (MZ K) 44 [some (.ref 0), some (.int x1), some (.int x2), some (.int x3), some (.int m4), none, none] [] X Y (l_Bri_rests_44 x1 x2 x3 kx n m4 X Y) := by
  intro n
  induction n with
  | zero =>
    intro m4 X Y
    rw [l_Bri_rests_44]
    exact j_none
  | succ n ih =>
    intro m4 X Y
    rw [l_Bri_rests_44]
    refine j_iload (i := 4) (x := m4) (q := 46) d_Bri_rests_44 rfl rfl ?_
    refine j_iconst (v := 4) (q := 47) d_Bri_rests_46 (by decide) rfl ?_
    refine j_icmp_ge (t := 64) (q := 50) d_Bri_rests_47 (by decide) rfl ?_ ?_
    · refine j_sub (L' := [some (.ref 0), none, none, some (.int x3), none, none, none]) ⟨rfl, ⟨rfl, trivial⟩⟩ ?_
      exact hkx m4 X Y
    · refine j_aload_n (i := 0) (x := 0) (q := 51) d_Bri_rests_50 rfl rfl rfl ?_
      refine j_iload (i := 4) (x := m4) (q := 53) d_Bri_rests_51 rfl rfl ?_
      refine j_iload_n (i := 1) (x := x1) (q := 54) d_Bri_rests_53 rfl rfl rfl ?_
      refine j_iload_n (i := 2) (x := x2) (q := 55) d_Bri_rests_54 rfl rfl rfl ?_
      refine j_callVv (a := 0) (S := []) (q := 58) [.int m4, .int x1, .int x2] d_Bri_rests_55 mw_Bri_weigh mv_Bri_weigh ml_Bri_225 ob_0 rfl rfl (c_Bri_weigh hK m4 x1 x2 X Y) ⟨⟨rfl, rfl⟩, ⟨Nat.le_of_ble_eq_true rfl, Nat.le_of_ble_eq_true rfl⟩, ⟨Nat.le_refl 0, Nat.le_refl 0⟩⟩ (Nat.le_of_ble_eq_true rfl) rfl (fun X10 Y11 => ?_)
      refine j_iinc (i := 4) (x := m4) (d := 1) (L' := [some (.ref 0), some (.int x1), some (.int x2), some (.int x3), some (.int (m4 + (1 : Int32))), none, none]) (q := 61) d_Bri_rests_58 rfl (by decide) (by decide) rfl rfl rfl ?_
      refine j_goto (q := 44) d_Bri_rests_61 (by decide) ?_
      refine j_sub (L' := [some (.ref 0), some (.int x1), some (.int x2), some (.int x3), some (.int (m4 + (1 : Int32))), none, none]) ⟨rfl, ⟨rfl, ⟨rfl, ⟨rfl, ⟨rfl, trivial⟩⟩⟩⟩⟩ ?_
      exact ih (m4 + (1 : Int32)) X10 Y11
set_option maxRecDepth 4000 in
theorem jb_Bri_rests_113 {K : KK} (hK : kOK K) (kc : Int32 → Int32 → Int32 → HI → HL → Option Out) (kx : Int32 → Int32 → Int32 → HI → HL → Option Out) (x3 : Int32) (x4 : Int32) (x5 : Int32) (x6 : Int32) (hkc : ∀ (m4 : Int32) (m5 : Int32) (m6 : Int32) (X : HI) (Y : HL), JO K "BrinePans" prog_1_method_24_code 7 (some .int) rm_Bri_rests 0 0 (MZ K) 74 [some (.ref 0), none, none, some (.int x3), some (.int m4), some (.int m5), some (.int m6)] [] X Y (kc m4 m5 m6 X Y)) (hkx : ∀ (m4 : Int32) (m5 : Int32) (m6 : Int32) (X : HI) (Y : HL), JO K "BrinePans" prog_1_method_24_code 7 (some .int) rm_Bri_rests 0 0 (MZ K) 119 [none, none, none, some (.int x3), some (.int m4), some (.int m5), none] [] X Y (kx m4 m5 m6 X Y)) (X : HI) (Y : HL) : JO K "BrinePans" prog_1_method_24_code 7 (some .int) rm_Bri_rests 0 0 (MZ K) 113 [some (.ref 0), none, none, some (.int x3), some (.int x4), some (.int x5), some (.int x6)] [] X Y (b_Bri_rests_113 kc kx x3 x4 x5 x6 X Y) := by
  unfold b_Bri_rests_113
  refine j_iinc (i := 6) (x := x6) (d := 1) (L' := [some (.ref 0), none, none, some (.int x3), some (.int x4), some (.int x5), some (.int (x6 + (1 : Int32)))]) (q := 116) d_Bri_rests_113 rfl (by decide) (by decide) rfl rfl rfl ?_
  refine j_goto (q := 74) d_Bri_rests_116 (by decide) ?_
  refine j_sub (L' := [some (.ref 0), none, none, some (.int x3), some (.int x4), some (.int x5), some (.int (x6 + (1 : Int32)))]) ⟨rfl, ⟨rfl, ⟨rfl, ⟨rfl, ⟨rfl, trivial⟩⟩⟩⟩⟩ ?_
  exact hkc x4 x5 (x6 + (1 : Int32)) X Y
set_option maxRecDepth 4000 in
theorem jl_Bri_rests_74 {K : KK} (hK : kOK K) (x3 : Int32) (kx : Int32 → Int32 → Int32 → HI → HL → Option Out) (hkx : ∀ (m4 : Int32) (m5 : Int32) (m6 : Int32) (X : HI) (Y : HL), JO K "BrinePans" prog_1_method_24_code 7 (some .int) rm_Bri_rests 0 0 (MZ K) 119 [none, none, none, some (.int x3), some (.int m4), some (.int m5), none] [] X Y (kx m4 m5 m6 X Y)) : ∀ (n : Nat) (m4 : Int32) (m5 : Int32) (m6 : Int32) (X : HI) (Y : HL), JO K "BrinePans" prog_1_method_24_code 7 (some .int) rm_Bri_rests 0 0 (MZ K) 74 [some (.ref 0), none, none, some (.int x3), some (.int m4), some (.int m5), some (.int m6)] [] X Y (l_Bri_rests_74 x3 kx n m4 m5 m6 X Y) := by
  intro n
  induction n with
  | zero =>
    intro m4 m5 m6 X Y
    rw [l_Bri_rests_74]
    exact j_none
  | succ n ih =>
    intro m4 m5 m6 X Y
    rw [l_Bri_rests_74]
    refine j_iload (i := 6) (x := m6) (q := 76) d_Bri_rests_74 rfl rfl ?_
    refine j_iconst (v := 4) (q := 77) d_Bri_rests_76 (by decide) rfl ?_
    refine j_icmp_ge (t := 119) (q := 80) d_Bri_rests_77 (by decide) rfl ?_ ?_
    · refine j_sub (L' := [none, none, none, some (.int x3), some (.int m4), some (.int m5), none]) ⟨rfl, ⟨rfl, ⟨rfl, trivial⟩⟩⟩ ?_
      exact hkx m4 m5 m6 X Y
    · refine j_aload_n (i := 0) (x := 0) (q := 81) d_Bri_rests_80 rfl rfl rfl ?_
      refine j_iload (i := 6) (x := m6) (q := 83) d_Bri_rests_81 rfl rfl ?_
      refine j_callVi (a := 0) (S := []) (q := 86) [.int m6] d_Bri_rests_83 mw_Bri_isAtRest mv_Bri_isAtRest ml_Bri_229 ob_0 rfl rfl (c_Bri_isAtRest hK m6 X Y) ⟨⟨rfl, rfl⟩, ⟨Nat.le_of_ble_eq_true rfl, Nat.le_of_ble_eq_true rfl⟩, ⟨Nat.le_refl 0, Nat.le_refl 0⟩⟩ (Nat.le_of_ble_eq_true rfl) rfl (fun r17 X15 Y16 => ?_)
      refine j_if_eq (t := 113) (q := 89) d_Bri_rests_86 (by decide) rfl ?_ ?_
      · refine j_sub (L' := [some (.ref 0), none, none, some (.int x3), some (.int m4), some (.int m5), some (.int m6)]) ⟨rfl, ⟨rfl, ⟨rfl, ⟨rfl, ⟨rfl, trivial⟩⟩⟩⟩⟩ ?_
        exact jb_Bri_rests_113 hK (fun a4 a5 a6 A B => l_Bri_rests_74 x3 kx n a4 a5 a6 A B) kx x3 m4 m5 m6 ih hkx X15 Y16
      · refine j_iinc (i := 4) (x := m4) (d := 1) (L' := [some (.ref 0), none, none, some (.int x3), some (.int (m4 + (1 : Int32))), some (.int m5), some (.int m6)]) (q := 92) d_Bri_rests_89 rfl (by decide) (by decide) rfl rfl rfl ?_
        refine j_iload (i := 5) (x := m5) (q := 94) d_Bri_rests_92 rfl rfl ?_
        refine j_bipush (v := -9) (q := 96) d_Bri_rests_94 (by decide +kernel) rfl ?_
        refine j_icmp_ne (t := 113) (q := 99) d_Bri_rests_96 (by decide) rfl ?_ ?_
        · refine j_sub (L' := [some (.ref 0), none, none, some (.int x3), some (.int (m4 + (1 : Int32))), some (.int m5), some (.int m6)]) ⟨rfl, ⟨rfl, ⟨rfl, ⟨rfl, ⟨rfl, trivial⟩⟩⟩⟩⟩ ?_
          exact jb_Bri_rests_113 hK (fun a4 a5 a6 A B => l_Bri_rests_74 x3 kx n a4 a5 a6 A B) kx x3 (m4 + (1 : Int32)) m5 m6 ih hkx X15 Y16
        · refine j_bipush (v := 10) (q := 101) d_Bri_rests_99 (by decide +kernel) rfl ?_
          refine j_iload (i := 6) (x := m6) (q := 103) d_Bri_rests_101 rfl rfl ?_
          refine j_iconst (v := 1) (q := 104) d_Bri_rests_103 (by decide) rfl ?_
          refine j_ishr (q := 105) d_Bri_rests_104 rfl ?_
          refine j_imul (q := 106) d_Bri_rests_105 rfl ?_
          refine j_iload (i := 6) (x := m6) (q := 108) d_Bri_rests_106 rfl rfl ?_
          refine j_iconst (v := 1) (q := 109) d_Bri_rests_108 (by decide) rfl ?_
          refine j_iand (q := 110) d_Bri_rests_109 rfl ?_
          refine j_iadd (q := 111) d_Bri_rests_110 rfl ?_
          refine j_lt (fun v18 => ?_)
          refine j_istore (i := 5) (L' := [some (.ref 0), none, none, some (.int x3), some (.int (m4 + (1 : Int32))), some (.int v18), some (.int m6)]) (q := 113) d_Bri_rests_111 (by decide) rfl rfl rfl ?_
          refine j_sub (L' := [some (.ref 0), none, none, some (.int x3), some (.int (m4 + (1 : Int32))), some (.int v18), some (.int m6)]) ⟨rfl, ⟨rfl, ⟨rfl, ⟨rfl, ⟨rfl, trivial⟩⟩⟩⟩⟩ ?_
          exact jb_Bri_rests_113 hK (fun a4 a5 a6 A B => l_Bri_rests_74 x3 kx n a4 a5 a6 A B) kx x3 (m4 + (1 : Int32)) v18 m6 ih hkx X15 Y16
set_option maxRecDepth 4000 in
theorem c_Bri_rests {K : KK} (hK : kOK K) (x1 : Int32) (x2 : Int32) (x3 : Int32) (X : HI) (Y : HL) : CT K y_Bri_rests prog_1_method_24_code 7 (some .int) rm_Bri_rests [.ref 0, .int x1, .int x2, .int x3] X Y (f_Bri_rests x1 x2 x3 X Y) := by
  refine ct_of hK (L := [some (.ref 0), some (.int x1), some (.int x2), some (.int x3), none, none, none]) (by decide) ⟨rfl, ⟨rfl, ⟨rfl, ⟨rfl, trivial⟩⟩⟩⟩ (Nat.le_of_ble_eq_true rfl) ?_
  unfold f_Bri_rests
  refine j_aload_n (i := 0) (x := 0) (q := 1) d_Bri_rests_0 rfl rfl rfl ?_
  refine j_get (v := .ref 3) (q := 4) d_Bri_rests_1 fk_Bri_19 fv_0_1 rfl ?_
  refine j_iload_n (i := 1) (x := x1) (q := 5) d_Bri_rests_4 rfl rfl rfl ?_
  refine j_callVNi (a := 3) (S := []) (q := 8) [.int x1] d_Bri_rests_5 mw_Gro_hasGate mv_Gro_hasGate ml_Bri_222 ob_3 rfl rfl (c_Gro_hasGate hK x1 X Y) ⟨⟨rfl, rfl⟩, ⟨Nat.le_of_ble_eq_true rfl, Nat.le_of_ble_eq_true rfl⟩, ⟨Nat.le_refl 0, Nat.le_refl 0⟩⟩ (Nat.le_of_ble_eq_true rfl) rfl (fun r3 X1 Y2 => ?_)
  refine j_if_eq (t := 22) (q := 11) d_Bri_rests_8 (by decide) rfl ?_ ?_
  · refine j_iconst (v := -1) (q := 23) d_Bri_rests_22 (by decide) rfl ?_
    exact j_iret d_Bri_rests_23
  · refine j_aload_n (i := 0) (x := 0) (q := 12) d_Bri_rests_11 rfl rfl rfl ?_
    refine j_get (v := .ref 3) (q := 15) d_Bri_rests_12 fk_Bri_19 fv_0_1 rfl ?_
    refine j_iload_n (i := 2) (x := x2) (q := 16) d_Bri_rests_15 rfl rfl rfl ?_
    refine j_callVNi (a := 3) (S := []) (q := 19) [.int x2] d_Bri_rests_16 mw_Gro_hasGate mv_Gro_hasGate ml_Bri_222 ob_3 rfl rfl (c_Gro_hasGate hK x2 X1 Y2) ⟨⟨rfl, rfl⟩, ⟨Nat.le_of_ble_eq_true rfl, Nat.le_of_ble_eq_true rfl⟩, ⟨Nat.le_refl 0, Nat.le_refl 0⟩⟩ (Nat.le_of_ble_eq_true rfl) rfl (fun r6 X4 Y5 => ?_)
    refine j_if_ne (t := 24) (q := 22) d_Bri_rests_19 (by decide) rfl ?_ ?_
    · refine j_iload_n (i := 1) (x := x1) (q := 25) d_Bri_rests_24 rfl rfl rfl ?_
      refine j_iload_n (i := 2) (x := x2) (q := 26) d_Bri_rests_25 rfl rfl rfl ?_
      refine j_icmp_eq (t := 38) (q := 29) d_Bri_rests_26 (by decide) rfl ?_ ?_
      · refine j_bipush (v := -2) (q := 40) d_Bri_rests_38 (by decide +kernel) rfl ?_
        exact j_iret d_Bri_rests_40
      · refine j_iload_n (i := 3) (x := x3) (q := 30) d_Bri_rests_29 rfl rfl rfl ?_
        refine j_iconst (v := 0) (q := 31) d_Bri_rests_30 (by decide) rfl ?_
        refine j_iconst (v := 1) (q := 32) d_Bri_rests_31 (by decide) rfl ?_
        refine j_callSi (S := []) (q := 35) [.int x3, .int (0 : Int32), .int (1 : Int32)] d_Bri_rests_32 mw_Bri_isFromTo ms_Bri_isFromTo ml_Bri_171 rfl rfl (c_Bri_isFromTo hK x3 (0 : Int32) (1 : Int32) X4 Y5) ⟨⟨rfl, rfl⟩, ⟨Nat.le_of_ble_eq_true rfl, Nat.le_of_ble_eq_true rfl⟩, ⟨Nat.le_refl 0, Nat.le_refl 0⟩⟩ (Nat.le_of_ble_eq_true rfl) rfl (fun r9 X7 Y8 => ?_)
        refine j_if_ne (t := 41) (q := 38) d_Bri_rests_35 (by decide) rfl ?_ ?_
        · refine j_iconst (v := 0) (q := 42) d_Bri_rests_41 (by decide) rfl ?_
          refine j_istore (i := 4) (L' := [some (.ref 0), some (.int x1), some (.int x2), some (.int x3), some (.int (0 : Int32)), none, none]) (q := 44) d_Bri_rests_42 (by decide) rfl rfl rfl ?_
          refine j_sub (L' := [some (.ref 0), some (.int x1), some (.int x2), some (.int x3), some (.int (0 : Int32)), none, none]) ⟨rfl, ⟨rfl, ⟨rfl, ⟨rfl, ⟨rfl, trivial⟩⟩⟩⟩⟩ ?_
          refine jl_Bri_rests_44 hK x1 x2 x3 _ (fun w12 X13 Y14 => ?_) 256 (0 : Int32) X7 Y8
          refine j_iconst (v := 0) (q := 65) d_Bri_rests_64 (by decide) rfl ?_
          refine j_istore (i := 4) (L' := [some (.ref 0), none, none, some (.int x3), some (.int (0 : Int32)), none, none]) (q := 67) d_Bri_rests_65 (by decide) rfl rfl rfl ?_
          refine j_bipush (v := -9) (q := 69) d_Bri_rests_67 (by decide +kernel) rfl ?_
          refine j_istore (i := 5) (L' := [some (.ref 0), none, none, some (.int x3), some (.int (0 : Int32)), some (.int (-9 : Int32)), none]) (q := 71) d_Bri_rests_69 (by decide) rfl rfl rfl ?_
          refine j_iconst (v := 0) (q := 72) d_Bri_rests_71 (by decide) rfl ?_
          refine j_istore (i := 6) (L' := [some (.ref 0), none, none, some (.int x3), some (.int (0 : Int32)), some (.int (-9 : Int32)), some (.int (0 : Int32))]) (q := 74) d_Bri_rests_72 (by decide) rfl rfl rfl ?_
          refine j_sub (L' := [some (.ref 0), none, none, some (.int x3), some (.int (0 : Int32)), some (.int (-9 : Int32)), some (.int (0 : Int32))]) ⟨rfl, ⟨rfl, ⟨rfl, ⟨rfl, ⟨rfl, trivial⟩⟩⟩⟩⟩ ?_
          refine jl_Bri_rests_74 hK x3 _ (fun w19 w20 w21 X22 Y23 => ?_) 256 (0 : Int32) (-9 : Int32) (0 : Int32) X13 Y14
          refine j_iload_n (i := 3) (x := x3) (q := 120) d_Bri_rests_119 rfl rfl rfl ?_
          refine j_if_ne (t := 128) (q := 123) d_Bri_rests_120 (by decide) rfl ?_ ?_
          · refine j_iload (i := 5) (x := w20) (q := 130) d_Bri_rests_128 rfl rfl ?_
            exact j_iret d_Bri_rests_130
          · refine j_iload (i := 4) (x := w19) (q := 125) d_Bri_rests_123 rfl rfl ?_
            refine j_goto (q := 130) d_Bri_rests_125 (by decide) ?_
            exact j_iret d_Bri_rests_130
        · refine j_bipush (v := -2) (q := 40) d_Bri_rests_38 (by decide +kernel) rfl ?_
          exact j_iret d_Bri_rests_40
    · refine j_iconst (v := -1) (q := 23) d_Bri_rests_22 (by decide) rfl ?_
      exact j_iret d_Bri_rests_23
def l_Bri_clouds_56 (x1 : Int32) (x2 : Int32) (x3 : Int32) (x4 : Int32) (x5 : Int32) (x6 : Int32) (kx : Int32 → Int32 → HI → HL → Option Out) : Nat → Int32 → Int32 → HI → HL → Option Out
  | 0, _, _, _, _ => none
  | n + 1, m7, m8, X, Y =>
    (if x2 ≤ m8 then
    (kx m7 m8 X Y)
    else
    lt (m7 * (10 : Int32)) (fun v13 =>
    (l_Bri_clouds_56 x1 x2 x3 x4 x5 x6 kx n v13 (m8 + (1 : Int32)) X Y)))
def b_Bri_clouds_139 (kc : Int32 → Int32 → HI → HL → Option Out) (kx : Int32 → Int32 → HI → HL → Option Out) (x1 : Int32) (x2 : Int32) (x3 : Int32) (x4 : Int32) (x5 : Int32) (x6 : Int32) (x7 : Int32) (x8 : Int32) (x11 : Int32) (x12 : Int32) (s0 : Int32) (s1 : Int32) (X : HI) (Y : HL) : Option Out :=
    lt (s1 * s0) (fun v20 =>
    bv (f_Pan_passDay 19 x12 X Y) (fun X21 Y22 =>
    (kc v20 (x11 + (1 : Int32)) X21 Y22)))
def b_Bri_clouds_120 (kc : Int32 → Int32 → HI → HL → Option Out) (kx : Int32 → Int32 → HI → HL → Option Out) (x1 : Int32) (x2 : Int32) (x3 : Int32) (x4 : Int32) (x5 : Int32) (x6 : Int32) (x7 : Int32) (x8 : Int32) (x10 : Int32) (x11 : Int32) (s0 : Int32) (X : HI) (Y : HL) : Option Out :=
    (if s0 = 0 then
    (b_Bri_clouds_139 kc kx x1 x2 x3 x4 x5 x6 x7 x8 x11 s0 ((10 : Int32) - x4) x10 X Y)
    else
    (b_Bri_clouds_139 kc kx x1 x2 x3 x4 x5 x6 x7 x8 x11 s0 x4 x10 X Y))
def l_Bri_clouds_98 (x1 : Int32) (x2 : Int32) (x3 : Int32) (x4 : Int32) (x5 : Int32) (x6 : Int32) (x7 : Int32) (x8 : Int32) (kx : Int32 → Int32 → HI → HL → Option Out) : Nat → Int32 → Int32 → HI → HL → Option Out
  | 0, _, _, _, _ => none
  | n + 1, m10, m11, X, Y =>
    (if x2 ≤ m11 then
    (kx m10 m11 X Y)
    else
    (if ((x8 >>> (m11 &&& 31)) &&& (1 : Int32)) = (1 : Int32) then
    (b_Bri_clouds_120 (fun a10 a11 A B => l_Bri_clouds_98 x1 x2 x3 x4 x5 x6 x7 x8 kx n a10 a11 A B) kx x1 x2 x3 x4 x5 x6 x7 x8 m10 m11 (1 : Int32) X Y)
    else
    (b_Bri_clouds_120 (fun a10 a11 A B => l_Bri_clouds_98 x1 x2 x3 x4 x5 x6 x7 x8 kx n a10 a11 A B) kx x1 x2 x3 x4 x5 x6 x7 x8 m10 m11 (0 : Int32) X Y)))
def b_Bri_clouds_172 (kc : Int32 → Int32 → HI → HL → Option Out) (kx : Int32 → Int32 → HI → HL → Option Out) (x1 : Int32) (x2 : Int32) (x3 : Int32) (x4 : Int32) (x5 : Int32) (x6 : Int32) (x7 : Int32) (x8 : Int32) (X : HI) (Y : HL) : Option Out :=
    (kc x6 (x8 + (1 : Int32)) X Y)
def l_Bri_clouds_78 (x1 : Int32) (x2 : Int32) (x3 : Int32) (x4 : Int32) (x5 : Int32) (x7 : Int32) (kx : Int32 → Int32 → HI → HL → Option Out) : Nat → Int32 → Int32 → HI → HL → Option Out
  | 0, _, _, _, _ => none
  | n + 1, m6, m8, X, Y =>
    (if ((1 : Int32) <<< (x2 &&& 31)) ≤ m8 then
    (kx m6 m8 X Y)
    else
    br 19 (f_Bri_fromNow X Y) (fun X18 Y19 =>
    (l_Bri_clouds_98 x1 x2 x3 x4 x5 m6 x7 m8 (fun w23 w24 X25 Y26 =>
    bi (f_Pan_crustOf 19 x1 X25 Y26) (fun r29 X27 Y28 =>
    (if r29 < x3 then
    (b_Bri_clouds_172 (fun a6 a8 A B => l_Bri_clouds_78 x1 x2 x3 x4 x5 x7 kx n a6 a8 A B) kx x1 x2 x3 x4 x5 m6 x7 m8 X27 Y28)
    else
    lt (m6 + w23) (fun v30 =>
    (b_Bri_clouds_172 (fun a6 a8 A B => l_Bri_clouds_78 x1 x2 x3 x4 x5 x7 kx n a6 a8 A B) kx x1 x2 x3 x4 x5 v30 x7 m8 X27 Y28))))) 256 (1 : Int32) (0 : Int32) X18 Y19)))
def f_Bri_clouds (x1 : Int32) (x2 : Int32) (x3 : Int32) (x4 : Int32) (x5 : Int32) (X : HI) (Y : HL) : Option Out :=
    bi (f_Gro_hasPan x1 X Y) (fun r3 X1 Y2 =>
    (if r3 = 0 then
    (rI (-1 : Int32) X1 Y2)
    else
    bi (f_Bri_isFromTo x2 (1 : Int32) (6 : Int32) X1 Y2) (fun r6 X4 Y5 =>
    (if r6 = 0 then
    (rI (-2 : Int32) X4 Y5)
    else
    bi (f_Bri_isFromTo x3 (0 : Int32) (99 : Int32) X4 Y5) (fun r9 X7 Y8 =>
    (if r9 = 0 then
    (rI (-2 : Int32) X7 Y8)
    else
    bi (f_Bri_isFromTo x4 (0 : Int32) (10 : Int32) X7 Y8) (fun r12 X10 Y11 =>
    (if r12 = 0 then
    (rI (-2 : Int32) X10 Y11)
    else
    (l_Bri_clouds_56 x1 x2 x3 x4 x5 (0 : Int32) (fun w14 w15 X16 Y17 =>
    (l_Bri_clouds_78 x1 x2 x3 x4 x5 w14 (fun w31 w32 X33 Y34 =>
    bi (f_Bri_told w31 w14 x5 X33 Y34) (fun r37 X35 Y36 =>
    (rI r37 X35 Y36))) 256 (0 : Int32) (0 : Int32) X16 Y17)) 256 (1 : Int32) (0 : Int32) X10 Y11)))))))))
set_option maxRecDepth 4000 in
theorem jl_Bri_clouds_56 {K : KK} (hK : kOK K) (x1 : Int32) (x2 : Int32) (x3 : Int32) (x4 : Int32) (x5 : Int32) (x6 : Int32) (kx : Int32 → Int32 → HI → HL → Option Out) (hkx : ∀ (m7 : Int32) (m8 : Int32) (X : HI) (Y : HL), JO K "BrinePans" prog_1_method_25_code 13 (some .int) rm_Bri_clouds 0 0 (MZ K) 75 [some (.ref 0), some (.int x1), some (.int x2), some (.int x3), some (.int x4), some (.int x5), some (.int x6), some (.int m7), none, none, none, none, none] [] X Y (kx m7 m8 X Y)) : ∀ (n : Nat) (m7 : Int32) (m8 : Int32) (X : HI) (Y : HL), JO K "BrinePans" prog_1_method_25_code 13 (some .int) rm_Bri_clouds 0 0 (MZ K) 56 [some (.ref 0), some (.int x1), some (.int x2), some (.int x3), some (.int x4), some (.int x5), some (.int x6), some (.int m7), some (.int m8), none, none, none, none] [] X Y (l_Bri_clouds_56 x1 x2 x3 x4 x5 x6 kx n m7 m8 X Y) := by
  intro n
  induction n with
  | zero =>
    intro m7 m8 X Y
    rw [l_Bri_clouds_56]
    exact j_none
  | succ n ih =>
    intro m7 m8 X Y
    rw [l_Bri_clouds_56]
    refine j_iload (i := 8) (x := m8) (q := 58) d_Bri_clouds_56 rfl rfl ?_
    refine j_iload_n (i := 2) (x := x2) (q := 59) d_Bri_clouds_58 rfl rfl rfl ?_
    refine j_icmp_ge (t := 75) (q := 62) d_Bri_clouds_59 (by decide) rfl ?_ ?_
    · refine j_sub (L' := [some (.ref 0), some (.int x1), some (.int x2), some (.int x3), some (.int x4), some (.int x5), some (.int x6), some (.int m7), none, none, none, none, none]) ⟨rfl, ⟨rfl, ⟨rfl, ⟨rfl, ⟨rfl, ⟨rfl, ⟨rfl, ⟨rfl, trivial⟩⟩⟩⟩⟩⟩⟩⟩ ?_
      exact hkx m7 m8 X Y
    · refine j_iload (i := 7) (x := m7) (q := 64) d_Bri_clouds_62 rfl rfl ?_
      refine j_bipush (v := 10) (q := 66) d_Bri_clouds_64 (by decide +kernel) rfl ?_
      refine j_imul (q := 67) d_Bri_clouds_66 rfl ?_
      refine j_lt (fun v13 => ?_)
      refine j_istore (i := 7) (L' := [some (.ref 0), some (.int x1), some (.int x2), some (.int x3), some (.int x4), some (.int x5), some (.int x6), some (.int v13), some (.int m8), none, none, none, none]) (q := 69) d_Bri_clouds_67 (by decide) rfl rfl rfl ?_
      refine j_iinc (i := 8) (x := m8) (d := 1) (L' := [some (.ref 0), some (.int x1), some (.int x2), some (.int x3), some (.int x4), some (.int x5), some (.int x6), some (.int v13), some (.int (m8 + (1 : Int32))), none, none, none, none]) (q := 72) d_Bri_clouds_69 rfl (by decide) (by decide) rfl rfl rfl ?_
      refine j_goto (q := 56) d_Bri_clouds_72 (by decide) ?_
      refine j_sub (L' := [some (.ref 0), some (.int x1), some (.int x2), some (.int x3), some (.int x4), some (.int x5), some (.int x6), some (.int v13), some (.int (m8 + (1 : Int32))), none, none, none, none]) ⟨rfl, ⟨rfl, ⟨rfl, ⟨rfl, ⟨rfl, ⟨rfl, ⟨rfl, ⟨rfl, ⟨rfl, trivial⟩⟩⟩⟩⟩⟩⟩⟩⟩ ?_
      exact ih v13 (m8 + (1 : Int32)) X Y
set_option maxRecDepth 4000 in
theorem jb_Bri_clouds_139 {K : KK} (hK : kOK K) (kc : Int32 → Int32 → HI → HL → Option Out) (kx : Int32 → Int32 → HI → HL → Option Out) (x1 : Int32) (x2 : Int32) (x3 : Int32) (x4 : Int32) (x5 : Int32) (x6 : Int32) (x7 : Int32) (x8 : Int32) (x11 : Int32) (x12 : Int32) (s0 : Int32) (s1 : Int32) (hkc : ∀ (m10 : Int32) (m11 : Int32) (X : HI) (Y : HL), JO K "BrinePans" prog_1_method_25_code 13 (some .int) rm_Bri_clouds 0 0 (MZ K) 98 [some (.ref 0), some (.int x1), some (.int x2), some (.int x3), some (.int x4), some (.int x5), some (.int x6), some (.int x7), some (.int x8), some (.ref 19), some (.int m10), some (.int m11), none] [] X Y (kc m10 m11 X Y)) (hkx : ∀ (m10 : Int32) (m11 : Int32) (X : HI) (Y : HL), JO K "BrinePans" prog_1_method_25_code 13 (some .int) rm_Bri_clouds 0 0 (MZ K) 155 [some (.ref 0), some (.int x1), some (.int x2), some (.int x3), some (.int x4), some (.int x5), some (.int x6), some (.int x7), some (.int x8), some (.ref 19), some (.int m10), none, none] [] X Y (kx m10 m11 X Y)) (X : HI) (Y : HL) : JO K "BrinePans" prog_1_method_25_code 13 (some .int) rm_Bri_clouds 0 0 (MZ K) 139 [some (.ref 0), some (.int x1), some (.int x2), some (.int x3), some (.int x4), some (.int x5), some (.int x6), some (.int x7), some (.int x8), some (.ref 19), none, some (.int x11), some (.int x12)] [.int s0, .int s1] X Y (b_Bri_clouds_139 kc kx x1 x2 x3 x4 x5 x6 x7 x8 x11 x12 s0 s1 X Y) := by
  unfold b_Bri_clouds_139
  refine j_imul (q := 140) d_Bri_clouds_139 rfl ?_
  refine j_lt (fun v20 => ?_)
  refine j_istore (i := 10) (L' := [some (.ref 0), some (.int x1), some (.int x2), some (.int x3), some (.int x4), some (.int x5), some (.int x6), some (.int x7), some (.int x8), some (.ref 19), some (.int v20), some (.int x11), some (.int x12)]) (q := 142) d_Bri_clouds_140 (by decide) rfl rfl rfl ?_
  refine j_aload (i := 9) (x := 19) (q := 144) d_Bri_clouds_142 rfl rfl ?_
  refine j_iload (i := 12) (x := x12) (q := 146) d_Bri_clouds_144 rfl rfl ?_
  refine j_callVNv (a := 19) (S := []) (q := 149) [.int x12] d_Bri_clouds_146 mw_Pan_passDay mv_Pan_passDay ml_Bri_147 (ob_P isP_19) rfl rfl (c_Pan_passDay hK 19 isP_19 x12 X Y) ⟨⟨rfl, rfl⟩, ⟨Nat.le_of_ble_eq_true rfl, Nat.le_of_ble_eq_true rfl⟩, ⟨Nat.le_refl 0, Nat.le_refl 0⟩⟩ (Nat.le_of_ble_eq_true rfl) rfl (fun X21 Y22 => ?_)
  refine j_iinc (i := 11) (x := x11) (d := 1) (L' := [some (.ref 0), some (.int x1), some (.int x2), some (.int x3), some (.int x4), some (.int x5), some (.int x6), some (.int x7), some (.int x8), some (.ref 19), some (.int v20), some (.int (x11 + (1 : Int32))), some (.int x12)]) (q := 152) d_Bri_clouds_149 rfl (by decide) (by decide) rfl rfl rfl ?_
  refine j_goto (q := 98) d_Bri_clouds_152 (by decide) ?_
  refine j_sub (L' := [some (.ref 0), some (.int x1), some (.int x2), some (.int x3), some (.int x4), some (.int x5), some (.int x6), some (.int x7), some (.int x8), some (.ref 19), some (.int v20), some (.int (x11 + (1 : Int32))), none]) ⟨rfl, ⟨rfl, ⟨rfl, ⟨rfl, ⟨rfl, ⟨rfl, ⟨rfl, ⟨rfl, ⟨rfl, ⟨rfl, ⟨rfl, ⟨rfl, trivial⟩⟩⟩⟩⟩⟩⟩⟩⟩⟩⟩⟩ ?_
  exact hkc v20 (x11 + (1 : Int32)) X21 Y22
set_option maxRecDepth 4000 in
theorem jb_Bri_clouds_120 {K : KK} (hK : kOK K) (kc : Int32 → Int32 → HI → HL → Option Out) (kx : Int32 → Int32 → HI → HL → Option Out) (x1 : Int32) (x2 : Int32) (x3 : Int32) (x4 : Int32) (x5 : Int32) (x6 : Int32) (x7 : Int32) (x8 : Int32) (x10 : Int32) (x11 : Int32) (s0 : Int32) (hkc : ∀ (m10 : Int32) (m11 : Int32) (X : HI) (Y : HL), JO K "BrinePans" prog_1_method_25_code 13 (some .int) rm_Bri_clouds 0 0 (MZ K) 98 [some (.ref 0), some (.int x1), some (.int x2), some (.int x3), some (.int x4), some (.int x5), some (.int x6), some (.int x7), some (.int x8), some (.ref 19), some (.int m10), some (.int m11), none] [] X Y (kc m10 m11 X Y)) (hkx : ∀ (m10 : Int32) (m11 : Int32) (X : HI) (Y : HL), JO K "BrinePans" prog_1_method_25_code 13 (some .int) rm_Bri_clouds 0 0 (MZ K) 155 [some (.ref 0), some (.int x1), some (.int x2), some (.int x3), some (.int x4), some (.int x5), some (.int x6), some (.int x7), some (.int x8), some (.ref 19), some (.int m10), none, none] [] X Y (kx m10 m11 X Y)) (X : HI) (Y : HL) : JO K "BrinePans" prog_1_method_25_code 13 (some .int) rm_Bri_clouds 0 0 (MZ K) 120 [some (.ref 0), some (.int x1), some (.int x2), some (.int x3), some (.int x4), some (.int x5), some (.int x6), some (.int x7), some (.int x8), some (.ref 19), some (.int x10), some (.int x11), none] [.int s0] X Y (b_Bri_clouds_120 kc kx x1 x2 x3 x4 x5 x6 x7 x8 x10 x11 s0 X Y) := by
  unfold b_Bri_clouds_120
  refine j_istore (i := 12) (L' := [some (.ref 0), some (.int x1), some (.int x2), some (.int x3), some (.int x4), some (.int x5), some (.int x6), some (.int x7), some (.int x8), some (.ref 19), some (.int x10), some (.int x11), some (.int s0)]) (q := 122) d_Bri_clouds_120 (by decide) rfl rfl rfl ?_
  refine j_iload (i := 10) (x := x10) (q := 124) d_Bri_clouds_122 rfl rfl ?_
  refine j_iload (i := 12) (x := s0) (q := 126) d_Bri_clouds_124 rfl rfl ?_
  refine j_if_eq (t := 134) (q := 129) d_Bri_clouds_126 (by decide) rfl ?_ ?_
  · refine j_bipush (v := 10) (q := 136) d_Bri_clouds_134 (by decide +kernel) rfl ?_
    refine j_iload (i := 4) (x := x4) (q := 138) d_Bri_clouds_136 rfl rfl ?_
    refine j_isub (q := 139) d_Bri_clouds_138 rfl ?_
    refine j_sub (L' := [some (.ref 0), some (.int x1), some (.int x2), some (.int x3), some (.int x4), some (.int x5), some (.int x6), some (.int x7), some (.int x8), some (.ref 19), none, some (.int x11), some (.int s0)]) ⟨rfl, ⟨rfl, ⟨rfl, ⟨rfl, ⟨rfl, ⟨rfl, ⟨rfl, ⟨rfl, ⟨rfl, ⟨rfl, ⟨rfl, ⟨rfl, trivial⟩⟩⟩⟩⟩⟩⟩⟩⟩⟩⟩⟩ ?_
    exact jb_Bri_clouds_139 hK kc kx x1 x2 x3 x4 x5 x6 x7 x8 x11 s0 ((10 : Int32) - x4) x10 hkc hkx X Y
  · refine j_iload (i := 4) (x := x4) (q := 131) d_Bri_clouds_129 rfl rfl ?_
    refine j_goto (q := 139) d_Bri_clouds_131 (by decide) ?_
    refine j_sub (L' := [some (.ref 0), some (.int x1), some (.int x2), some (.int x3), some (.int x4), some (.int x5), some (.int x6), some (.int x7), some (.int x8), some (.ref 19), none, some (.int x11), some (.int s0)]) ⟨rfl, ⟨rfl, ⟨rfl, ⟨rfl, ⟨rfl, ⟨rfl, ⟨rfl, ⟨rfl, ⟨rfl, ⟨rfl, ⟨rfl, ⟨rfl, trivial⟩⟩⟩⟩⟩⟩⟩⟩⟩⟩⟩⟩ ?_
    exact jb_Bri_clouds_139 hK kc kx x1 x2 x3 x4 x5 x6 x7 x8 x11 s0 x4 x10 hkc hkx X Y
set_option maxRecDepth 4000 in
theorem jl_Bri_clouds_98 {K : KK} (hK : kOK K) (x1 : Int32) (x2 : Int32) (x3 : Int32) (x4 : Int32) (x5 : Int32) (x6 : Int32) (x7 : Int32) (x8 : Int32) (kx : Int32 → Int32 → HI → HL → Option Out) (hkx : ∀ (m10 : Int32) (m11 : Int32) (X : HI) (Y : HL), JO K "BrinePans" prog_1_method_25_code 13 (some .int) rm_Bri_clouds 0 0 (MZ K) 155 [some (.ref 0), some (.int x1), some (.int x2), some (.int x3), some (.int x4), some (.int x5), some (.int x6), some (.int x7), some (.int x8), some (.ref 19), some (.int m10), none, none] [] X Y (kx m10 m11 X Y)) : ∀ (n : Nat) (m10 : Int32) (m11 : Int32) (X : HI) (Y : HL), JO K "BrinePans" prog_1_method_25_code 13 (some .int) rm_Bri_clouds 0 0 (MZ K) 98 [some (.ref 0), some (.int x1), some (.int x2), some (.int x3), some (.int x4), some (.int x5), some (.int x6), some (.int x7), some (.int x8), some (.ref 19), some (.int m10), some (.int m11), none] [] X Y (l_Bri_clouds_98 x1 x2 x3 x4 x5 x6 x7 x8 kx n m10 m11 X Y) := by
  intro n
  induction n with
  | zero =>
    intro m10 m11 X Y
    rw [l_Bri_clouds_98]
    exact j_none
  | succ n ih =>
    intro m10 m11 X Y
    rw [l_Bri_clouds_98]
    refine j_iload (i := 11) (x := m11) (q := 100) d_Bri_clouds_98 rfl rfl ?_
    refine j_iload_n (i := 2) (x := x2) (q := 101) d_Bri_clouds_100 rfl rfl rfl ?_
    refine j_icmp_ge (t := 155) (q := 104) d_Bri_clouds_101 (by decide) rfl ?_ ?_
    · refine j_sub (L' := [some (.ref 0), some (.int x1), some (.int x2), some (.int x3), some (.int x4), some (.int x5), some (.int x6), some (.int x7), some (.int x8), some (.ref 19), some (.int m10), none, none]) ⟨rfl, ⟨rfl, ⟨rfl, ⟨rfl, ⟨rfl, ⟨rfl, ⟨rfl, ⟨rfl, ⟨rfl, ⟨rfl, ⟨rfl, trivial⟩⟩⟩⟩⟩⟩⟩⟩⟩⟩⟩ ?_
      exact hkx m10 m11 X Y
    · refine j_iload (i := 8) (x := x8) (q := 106) d_Bri_clouds_104 rfl rfl ?_
      refine j_iload (i := 11) (x := m11) (q := 108) d_Bri_clouds_106 rfl rfl ?_
      refine j_ishr (q := 109) d_Bri_clouds_108 rfl ?_
      refine j_iconst (v := 1) (q := 110) d_Bri_clouds_109 (by decide) rfl ?_
      refine j_iand (q := 111) d_Bri_clouds_110 rfl ?_
      refine j_iconst (v := 1) (q := 112) d_Bri_clouds_111 (by decide) rfl ?_
      refine j_icmp_ne (t := 119) (q := 115) d_Bri_clouds_112 (by decide) rfl ?_ ?_
      · refine j_iconst (v := 0) (q := 120) d_Bri_clouds_119 (by decide) rfl ?_
        refine j_sub (L' := [some (.ref 0), some (.int x1), some (.int x2), some (.int x3), some (.int x4), some (.int x5), some (.int x6), some (.int x7), some (.int x8), some (.ref 19), some (.int m10), some (.int m11), none]) ⟨rfl, ⟨rfl, ⟨rfl, ⟨rfl, ⟨rfl, ⟨rfl, ⟨rfl, ⟨rfl, ⟨rfl, ⟨rfl, ⟨rfl, ⟨rfl, trivial⟩⟩⟩⟩⟩⟩⟩⟩⟩⟩⟩⟩ ?_
        exact jb_Bri_clouds_120 hK (fun a10 a11 A B => l_Bri_clouds_98 x1 x2 x3 x4 x5 x6 x7 x8 kx n a10 a11 A B) kx x1 x2 x3 x4 x5 x6 x7 x8 m10 m11 (0 : Int32) ih hkx X Y
      · refine j_iconst (v := 1) (q := 116) d_Bri_clouds_115 (by decide) rfl ?_
        refine j_goto (q := 120) d_Bri_clouds_116 (by decide) ?_
        refine j_sub (L' := [some (.ref 0), some (.int x1), some (.int x2), some (.int x3), some (.int x4), some (.int x5), some (.int x6), some (.int x7), some (.int x8), some (.ref 19), some (.int m10), some (.int m11), none]) ⟨rfl, ⟨rfl, ⟨rfl, ⟨rfl, ⟨rfl, ⟨rfl, ⟨rfl, ⟨rfl, ⟨rfl, ⟨rfl, ⟨rfl, ⟨rfl, trivial⟩⟩⟩⟩⟩⟩⟩⟩⟩⟩⟩⟩ ?_
        exact jb_Bri_clouds_120 hK (fun a10 a11 A B => l_Bri_clouds_98 x1 x2 x3 x4 x5 x6 x7 x8 kx n a10 a11 A B) kx x1 x2 x3 x4 x5 x6 x7 x8 m10 m11 (1 : Int32) ih hkx X Y
set_option maxRecDepth 4000 in
theorem jb_Bri_clouds_172 {K : KK} (hK : kOK K) (kc : Int32 → Int32 → HI → HL → Option Out) (kx : Int32 → Int32 → HI → HL → Option Out) (x1 : Int32) (x2 : Int32) (x3 : Int32) (x4 : Int32) (x5 : Int32) (x6 : Int32) (x7 : Int32) (x8 : Int32) (hkc : ∀ (m6 : Int32) (m8 : Int32) (X : HI) (Y : HL), JO K "BrinePans" prog_1_method_25_code 13 (some .int) rm_Bri_clouds 0 0 (MZ K) 78 [some (.ref 0), some (.int x1), some (.int x2), some (.int x3), some (.int x4), some (.int x5), some (.int m6), some (.int x7), some (.int m8), none, none, none, none] [] X Y (kc m6 m8 X Y)) (hkx : ∀ (m6 : Int32) (m8 : Int32) (X : HI) (Y : HL), JO K "BrinePans" prog_1_method_25_code 13 (some .int) rm_Bri_clouds 0 0 (MZ K) 178 [none, none, none, none, none, some (.int x5), some (.int m6), some (.int x7), none, none, none, none, none] [] X Y (kx m6 m8 X Y)) (X : HI) (Y : HL) : JO K "BrinePans" prog_1_method_25_code 13 (some .int) rm_Bri_clouds 0 0 (MZ K) 172 [some (.ref 0), some (.int x1), some (.int x2), some (.int x3), some (.int x4), some (.int x5), some (.int x6), some (.int x7), some (.int x8), none, none, none, none] [] X Y (b_Bri_clouds_172 kc kx x1 x2 x3 x4 x5 x6 x7 x8 X Y) := by
  unfold b_Bri_clouds_172
  refine j_iinc (i := 8) (x := x8) (d := 1) (L' := [some (.ref 0), some (.int x1), some (.int x2), some (.int x3), some (.int x4), some (.int x5), some (.int x6), some (.int x7), some (.int (x8 + (1 : Int32))), none, none, none, none]) (q := 175) d_Bri_clouds_172 rfl (by decide) (by decide) rfl rfl rfl ?_
  refine j_goto (q := 78) d_Bri_clouds_175 (by decide) ?_
  refine j_sub (L' := [some (.ref 0), some (.int x1), some (.int x2), some (.int x3), some (.int x4), some (.int x5), some (.int x6), some (.int x7), some (.int (x8 + (1 : Int32))), none, none, none, none]) ⟨rfl, ⟨rfl, ⟨rfl, ⟨rfl, ⟨rfl, ⟨rfl, ⟨rfl, ⟨rfl, ⟨rfl, trivial⟩⟩⟩⟩⟩⟩⟩⟩⟩ ?_
  exact hkc x6 (x8 + (1 : Int32)) X Y
set_option maxRecDepth 4000 in
theorem jl_Bri_clouds_78 {K : KK} (hK : kOK K) (x1 : Int32) (x2 : Int32) (x3 : Int32) (x4 : Int32) (x5 : Int32) (x7 : Int32) (kx : Int32 → Int32 → HI → HL → Option Out) (hkx : ∀ (m6 : Int32) (m8 : Int32) (X : HI) (Y : HL), JO K "BrinePans" prog_1_method_25_code 13 (some .int) rm_Bri_clouds 0 0 (MZ K) 178 [none, none, none, none, none, some (.int x5), some (.int m6), some (.int x7), none, none, none, none, none] [] X Y (kx m6 m8 X Y)) : ∀ (n : Nat) (m6 : Int32) (m8 : Int32) (X : HI) (Y : HL), JO K "BrinePans" prog_1_method_25_code 13 (some .int) rm_Bri_clouds 0 0 (MZ K) 78 [some (.ref 0), some (.int x1), some (.int x2), some (.int x3), some (.int x4), some (.int x5), some (.int m6), some (.int x7), some (.int m8), none, none, none, none] [] X Y (l_Bri_clouds_78 x1 x2 x3 x4 x5 x7 kx n m6 m8 X Y) := by
  intro n
  induction n with
  | zero =>
    intro m6 m8 X Y
    rw [l_Bri_clouds_78]
    exact j_none
  | succ n ih =>
    intro m6 m8 X Y
    rw [l_Bri_clouds_78]
    refine j_iload (i := 8) (x := m8) (q := 80) d_Bri_clouds_78 rfl rfl ?_
    refine j_iconst (v := 1) (q := 81) d_Bri_clouds_80 (by decide) rfl ?_
    refine j_iload_n (i := 2) (x := x2) (q := 82) d_Bri_clouds_81 rfl rfl rfl ?_
    refine j_ishl (q := 83) d_Bri_clouds_82 rfl ?_
    refine j_icmp_ge (t := 178) (q := 86) d_Bri_clouds_83 (by decide) rfl ?_ ?_
    · refine j_sub (L' := [none, none, none, none, none, some (.int x5), some (.int m6), some (.int x7), none, none, none, none, none]) ⟨rfl, ⟨rfl, ⟨rfl, trivial⟩⟩⟩ ?_
      exact hkx m6 m8 X Y
    · refine j_aload_n (i := 0) (x := 0) (q := 87) d_Bri_clouds_86 rfl rfl rfl ?_
      refine j_callVr (a := 0) (ra := 19) (S := []) (q := 90) [] d_Bri_clouds_87 mw_Bri_fromNow mv_Bri_fromNow ml_Bri_143 ob_0 rfl rfl (c_Bri_fromNow hK X Y) ⟨⟨rfl, rfl⟩, ⟨Nat.le_of_ble_eq_true rfl, Nat.le_of_ble_eq_true rfl⟩, ⟨Nat.le_refl 0, Nat.le_refl 0⟩⟩ (Nat.le_of_ble_eq_true rfl) rfl (fun X18 Y19 => ?_)
      refine j_astore (i := 9) (L' := [some (.ref 0), some (.int x1), some (.int x2), some (.int x3), some (.int x4), some (.int x5), some (.int m6), some (.int x7), some (.int m8), some (.ref 19), none, none, none]) (q := 92) d_Bri_clouds_90 (by decide) rfl rfl rfl ?_
      refine j_iconst (v := 1) (q := 93) d_Bri_clouds_92 (by decide) rfl ?_
      refine j_istore (i := 10) (L' := [some (.ref 0), some (.int x1), some (.int x2), some (.int x3), some (.int x4), some (.int x5), some (.int m6), some (.int x7), some (.int m8), some (.ref 19), some (.int (1 : Int32)), none, none]) (q := 95) d_Bri_clouds_93 (by decide) rfl rfl rfl ?_
      refine j_iconst (v := 0) (q := 96) d_Bri_clouds_95 (by decide) rfl ?_
      refine j_istore (i := 11) (L' := [some (.ref 0), some (.int x1), some (.int x2), some (.int x3), some (.int x4), some (.int x5), some (.int m6), some (.int x7), some (.int m8), some (.ref 19), some (.int (1 : Int32)), some (.int (0 : Int32)), none]) (q := 98) d_Bri_clouds_96 (by decide) rfl rfl rfl ?_
      refine j_sub (L' := [some (.ref 0), some (.int x1), some (.int x2), some (.int x3), some (.int x4), some (.int x5), some (.int m6), some (.int x7), some (.int m8), some (.ref 19), some (.int (1 : Int32)), some (.int (0 : Int32)), none]) ⟨rfl, ⟨rfl, ⟨rfl, ⟨rfl, ⟨rfl, ⟨rfl, ⟨rfl, ⟨rfl, ⟨rfl, ⟨rfl, ⟨rfl, ⟨rfl, trivial⟩⟩⟩⟩⟩⟩⟩⟩⟩⟩⟩⟩ ?_
      refine jl_Bri_clouds_98 hK x1 x2 x3 x4 x5 m6 x7 m8 _ (fun w23 w24 X25 Y26 => ?_) 256 (1 : Int32) (0 : Int32) X18 Y19
      refine j_aload (i := 9) (x := 19) (q := 157) d_Bri_clouds_155 rfl rfl ?_
      refine j_iload_n (i := 1) (x := x1) (q := 158) d_Bri_clouds_157 rfl rfl rfl ?_
      refine j_callVNi (a := 19) (S := []) (q := 161) [.int x1] d_Bri_clouds_158 mw_Pan_crustOf mv_Pan_crustOf ml_Bri_137 (ob_P isP_19) rfl rfl (c_Pan_crustOf hK 19 isP_19 x1 X25 Y26) ⟨⟨rfl, rfl⟩, ⟨Nat.le_of_ble_eq_true rfl, Nat.le_of_ble_eq_true rfl⟩, ⟨Nat.le_refl 0, Nat.le_refl 0⟩⟩ (Nat.le_of_ble_eq_true rfl) rfl (fun r29 X27 Y28 => ?_)
      refine j_iload_n (i := 3) (x := x3) (q := 162) d_Bri_clouds_161 rfl rfl rfl ?_
      refine j_icmp_lt (t := 172) (q := 165) d_Bri_clouds_162 (by decide) rfl ?_ ?_
      · refine j_sub (L' := [some (.ref 0), some (.int x1), some (.int x2), some (.int x3), some (.int x4), some (.int x5), some (.int m6), some (.int x7), some (.int m8), none, none, none, none]) ⟨rfl, ⟨rfl, ⟨rfl, ⟨rfl, ⟨rfl, ⟨rfl, ⟨rfl, ⟨rfl, ⟨rfl, trivial⟩⟩⟩⟩⟩⟩⟩⟩⟩ ?_
        exact jb_Bri_clouds_172 hK (fun a6 a8 A B => l_Bri_clouds_78 x1 x2 x3 x4 x5 x7 kx n a6 a8 A B) kx x1 x2 x3 x4 x5 m6 x7 m8 ih hkx X27 Y28
      · refine j_iload (i := 6) (x := m6) (q := 167) d_Bri_clouds_165 rfl rfl ?_
        refine j_iload (i := 10) (x := w23) (q := 169) d_Bri_clouds_167 rfl rfl ?_
        refine j_iadd (q := 170) d_Bri_clouds_169 rfl ?_
        refine j_lt (fun v30 => ?_)
        refine j_istore (i := 6) (L' := [some (.ref 0), some (.int x1), some (.int x2), some (.int x3), some (.int x4), some (.int x5), some (.int v30), some (.int x7), some (.int m8), some (.ref 19), some (.int w23), none, none]) (q := 172) d_Bri_clouds_170 (by decide) rfl rfl rfl ?_
        refine j_sub (L' := [some (.ref 0), some (.int x1), some (.int x2), some (.int x3), some (.int x4), some (.int x5), some (.int v30), some (.int x7), some (.int m8), none, none, none, none]) ⟨rfl, ⟨rfl, ⟨rfl, ⟨rfl, ⟨rfl, ⟨rfl, ⟨rfl, ⟨rfl, ⟨rfl, trivial⟩⟩⟩⟩⟩⟩⟩⟩⟩ ?_
        exact jb_Bri_clouds_172 hK (fun a6 a8 A B => l_Bri_clouds_78 x1 x2 x3 x4 x5 x7 kx n a6 a8 A B) kx x1 x2 x3 x4 x5 v30 x7 m8 ih hkx X27 Y28
set_option maxRecDepth 4000 in
theorem c_Bri_clouds {K : KK} (hK : kOK K) (x1 : Int32) (x2 : Int32) (x3 : Int32) (x4 : Int32) (x5 : Int32) (X : HI) (Y : HL) : CT K y_Bri_clouds prog_1_method_25_code 13 (some .int) rm_Bri_clouds [.ref 0, .int x1, .int x2, .int x3, .int x4, .int x5] X Y (f_Bri_clouds x1 x2 x3 x4 x5 X Y) := by
  refine ct_of hK (L := [some (.ref 0), some (.int x1), some (.int x2), some (.int x3), some (.int x4), some (.int x5), none, none, none, none, none, none, none]) (by decide) ⟨rfl, ⟨rfl, ⟨rfl, ⟨rfl, ⟨rfl, ⟨rfl, trivial⟩⟩⟩⟩⟩⟩ (Nat.le_of_ble_eq_true rfl) ?_
  unfold f_Bri_clouds
  refine j_aload_n (i := 0) (x := 0) (q := 1) d_Bri_clouds_0 rfl rfl rfl ?_
  refine j_get (v := .ref 3) (q := 4) d_Bri_clouds_1 fk_Bri_19 fv_0_1 rfl ?_
  refine j_iload_n (i := 1) (x := x1) (q := 5) d_Bri_clouds_4 rfl rfl rfl ?_
  refine j_callVNi (a := 3) (S := []) (q := 8) [.int x1] d_Bri_clouds_5 mw_Gro_hasPan mv_Gro_hasPan ml_Bri_127 ob_3 rfl rfl (c_Gro_hasPan hK x1 X Y) ⟨⟨rfl, rfl⟩, ⟨Nat.le_of_ble_eq_true rfl, Nat.le_of_ble_eq_true rfl⟩, ⟨Nat.le_refl 0, Nat.le_refl 0⟩⟩ (Nat.le_of_ble_eq_true rfl) rfl (fun r3 X1 Y2 => ?_)
  refine j_if_ne (t := 13) (q := 11) d_Bri_clouds_8 (by decide) rfl ?_ ?_
  · refine j_iload_n (i := 2) (x := x2) (q := 14) d_Bri_clouds_13 rfl rfl rfl ?_
    refine j_iconst (v := 1) (q := 15) d_Bri_clouds_14 (by decide) rfl ?_
    refine j_bipush (v := 6) (q := 17) d_Bri_clouds_15 (by decide +kernel) rfl ?_
    refine j_callSi (S := []) (q := 20) [.int x2, .int (1 : Int32), .int (6 : Int32)] d_Bri_clouds_17 mw_Bri_isFromTo ms_Bri_isFromTo ml_Bri_171 rfl rfl (c_Bri_isFromTo hK x2 (1 : Int32) (6 : Int32) X1 Y2) ⟨⟨rfl, rfl⟩, ⟨Nat.le_of_ble_eq_true rfl, Nat.le_of_ble_eq_true rfl⟩, ⟨Nat.le_refl 0, Nat.le_refl 0⟩⟩ (Nat.le_of_ble_eq_true rfl) rfl (fun r6 X4 Y5 => ?_)
    refine j_if_eq (t := 44) (q := 23) d_Bri_clouds_20 (by decide) rfl ?_ ?_
    · refine j_bipush (v := -2) (q := 46) d_Bri_clouds_44 (by decide +kernel) rfl ?_
      exact j_iret d_Bri_clouds_46
    · refine j_iload_n (i := 3) (x := x3) (q := 24) d_Bri_clouds_23 rfl rfl rfl ?_
      refine j_iconst (v := 0) (q := 25) d_Bri_clouds_24 (by decide) rfl ?_
      refine j_bipush (v := 99) (q := 27) d_Bri_clouds_25 (by decide +kernel) rfl ?_
      refine j_callSi (S := []) (q := 30) [.int x3, .int (0 : Int32), .int (99 : Int32)] d_Bri_clouds_27 mw_Bri_isFromTo ms_Bri_isFromTo ml_Bri_171 rfl rfl (c_Bri_isFromTo hK x3 (0 : Int32) (99 : Int32) X4 Y5) ⟨⟨rfl, rfl⟩, ⟨Nat.le_of_ble_eq_true rfl, Nat.le_of_ble_eq_true rfl⟩, ⟨Nat.le_refl 0, Nat.le_refl 0⟩⟩ (Nat.le_of_ble_eq_true rfl) rfl (fun r9 X7 Y8 => ?_)
      refine j_if_eq (t := 44) (q := 33) d_Bri_clouds_30 (by decide) rfl ?_ ?_
      · refine j_bipush (v := -2) (q := 46) d_Bri_clouds_44 (by decide +kernel) rfl ?_
        exact j_iret d_Bri_clouds_46
      · refine j_iload (i := 4) (x := x4) (q := 35) d_Bri_clouds_33 rfl rfl ?_
        refine j_iconst (v := 0) (q := 36) d_Bri_clouds_35 (by decide) rfl ?_
        refine j_bipush (v := 10) (q := 38) d_Bri_clouds_36 (by decide +kernel) rfl ?_
        refine j_callSi (S := []) (q := 41) [.int x4, .int (0 : Int32), .int (10 : Int32)] d_Bri_clouds_38 mw_Bri_isFromTo ms_Bri_isFromTo ml_Bri_171 rfl rfl (c_Bri_isFromTo hK x4 (0 : Int32) (10 : Int32) X7 Y8) ⟨⟨rfl, rfl⟩, ⟨Nat.le_of_ble_eq_true rfl, Nat.le_of_ble_eq_true rfl⟩, ⟨Nat.le_refl 0, Nat.le_refl 0⟩⟩ (Nat.le_of_ble_eq_true rfl) rfl (fun r12 X10 Y11 => ?_)
        refine j_if_ne (t := 47) (q := 44) d_Bri_clouds_41 (by decide) rfl ?_ ?_
        · refine j_iconst (v := 0) (q := 48) d_Bri_clouds_47 (by decide) rfl ?_
          refine j_istore (i := 6) (L' := [some (.ref 0), some (.int x1), some (.int x2), some (.int x3), some (.int x4), some (.int x5), some (.int (0 : Int32)), none, none, none, none, none, none]) (q := 50) d_Bri_clouds_48 (by decide) rfl rfl rfl ?_
          refine j_iconst (v := 1) (q := 51) d_Bri_clouds_50 (by decide) rfl ?_
          refine j_istore (i := 7) (L' := [some (.ref 0), some (.int x1), some (.int x2), some (.int x3), some (.int x4), some (.int x5), some (.int (0 : Int32)), some (.int (1 : Int32)), none, none, none, none, none]) (q := 53) d_Bri_clouds_51 (by decide) rfl rfl rfl ?_
          refine j_iconst (v := 0) (q := 54) d_Bri_clouds_53 (by decide) rfl ?_
          refine j_istore (i := 8) (L' := [some (.ref 0), some (.int x1), some (.int x2), some (.int x3), some (.int x4), some (.int x5), some (.int (0 : Int32)), some (.int (1 : Int32)), some (.int (0 : Int32)), none, none, none, none]) (q := 56) d_Bri_clouds_54 (by decide) rfl rfl rfl ?_
          refine j_sub (L' := [some (.ref 0), some (.int x1), some (.int x2), some (.int x3), some (.int x4), some (.int x5), some (.int (0 : Int32)), some (.int (1 : Int32)), some (.int (0 : Int32)), none, none, none, none]) ⟨rfl, ⟨rfl, ⟨rfl, ⟨rfl, ⟨rfl, ⟨rfl, ⟨rfl, ⟨rfl, ⟨rfl, trivial⟩⟩⟩⟩⟩⟩⟩⟩⟩ ?_
          refine jl_Bri_clouds_56 hK x1 x2 x3 x4 x5 (0 : Int32) _ (fun w14 w15 X16 Y17 => ?_) 256 (1 : Int32) (0 : Int32) X10 Y11
          refine j_iconst (v := 0) (q := 76) d_Bri_clouds_75 (by decide) rfl ?_
          refine j_istore (i := 8) (L' := [some (.ref 0), some (.int x1), some (.int x2), some (.int x3), some (.int x4), some (.int x5), some (.int (0 : Int32)), some (.int w14), some (.int (0 : Int32)), none, none, none, none]) (q := 78) d_Bri_clouds_76 (by decide) rfl rfl rfl ?_
          refine j_sub (L' := [some (.ref 0), some (.int x1), some (.int x2), some (.int x3), some (.int x4), some (.int x5), some (.int (0 : Int32)), some (.int w14), some (.int (0 : Int32)), none, none, none, none]) ⟨rfl, ⟨rfl, ⟨rfl, ⟨rfl, ⟨rfl, ⟨rfl, ⟨rfl, ⟨rfl, ⟨rfl, trivial⟩⟩⟩⟩⟩⟩⟩⟩⟩ ?_
          refine jl_Bri_clouds_78 hK x1 x2 x3 x4 x5 w14 _ (fun w31 w32 X33 Y34 => ?_) 256 (0 : Int32) (0 : Int32) X16 Y17
          refine j_iload (i := 6) (x := w31) (q := 180) d_Bri_clouds_178 rfl rfl ?_
          refine j_iload (i := 7) (x := w14) (q := 182) d_Bri_clouds_180 rfl rfl ?_
          refine j_iload (i := 5) (x := x5) (q := 184) d_Bri_clouds_182 rfl rfl ?_
          refine j_callSi (S := []) (q := 187) [.int w31, .int w14, .int x5] d_Bri_clouds_184 mw_Bri_told ms_Bri_told ml_Bri_210 rfl rfl (c_Bri_told hK w31 w14 x5 X33 Y34) ⟨⟨rfl, rfl⟩, ⟨Nat.le_of_ble_eq_true rfl, Nat.le_of_ble_eq_true rfl⟩, ⟨Nat.le_refl 0, Nat.le_refl 0⟩⟩ (Nat.le_of_ble_eq_true rfl) rfl (fun r37 X35 Y36 => ?_)
          exact j_iret d_Bri_clouds_187
        · refine j_bipush (v := -2) (q := 46) d_Bri_clouds_44 (by decide +kernel) rfl ?_
          exact j_iret d_Bri_clouds_46
  · refine j_iconst (v := -1) (q := 12) d_Bri_clouds_11 (by decide) rfl ?_
    exact j_iret d_Bri_clouds_12
def f_Bri_seed (x1 : Int64) (X : HI) (Y : HL) : Option Out :=
    ltl (Y 0) (fun v1 =>
    lhY (upY Y 0 x1) (fun Y2 =>
    (rL v1 X Y2)))
set_option maxRecDepth 4000 in
theorem c_Bri_seed {K : KK} (hK : kOK K) (x1 : Int64) (X : HI) (Y : HL) : CT K y_Bri_seed prog_1_method_26_code 5 (some .long) rm_Bri_seed [.ref 0, .long x1] X Y (f_Bri_seed x1 X Y) := by
  refine ct_of hK (L := [some (.ref 0), some (.long x1), none, none, none]) (by decide) ⟨rfl, ⟨rfl, trivial⟩⟩ (Nat.le_of_ble_eq_true rfl) ?_
  unfold f_Bri_seed
  refine j_aload_n (i := 0) (x := 0) (q := 1) d_Bri_seed_0 rfl rfl rfl ?_
  refine j_get (v := .long (Y 0)) (q := 4) d_Bri_seed_1 fk_Bri_64 fv_0_10 rfl ?_
  refine j_ltl (fun v1 => ?_)
  refine j_lstore_n (i := 3) (L' := [some (.ref 0), some (.long x1), none, some (.long v1), none]) (q := 5) d_Bri_seed_4 rfl (by decide) rfl rfl rfl ?_
  refine j_aload_n (i := 0) (x := 0) (q := 6) d_Bri_seed_5 rfl rfl rfl ?_
  refine j_lload_n (i := 1) (x := x1) (q := 7) d_Bri_seed_6 rfl rfl rfl ?_
  refine j_putL (q := 10) d_Bri_seed_7 fp_Bri_64 fwl_0 rfl (fun Y2 => ?_)
  refine j_lload_n (i := 3) (x := v1) (q := 11) d_Bri_seed_10 rfl rfl rfl ?_
  exact j_lret d_Bri_seed_11
def l_Bri_years_23 (x1 : Int32) (kx : Int32 → Int32 → HI → HL → Option Out) : Nat → Int32 → Int32 → HI → HL → Option Out
  | 0, _, _, _, _ => none
  | n + 1, m3, m4, X, Y =>
    (if x1 ≤ m4 then
    (kx m3 m4 X Y)
    else
    lhY (upY Y 0 (((Y 0) * (6364136223846793005 : Int64)) + (1442695040888963407 : Int64))) (fun Y6 =>
    gd (nzl (24 : Int64)) (
    bv (f_Pan_befall 19 ((((Y6 0).toUInt64 >>> ((33 : Int32).toInt64.toUInt64 &&& Int64.toUInt64 63)).toInt64) - (((Y6 0).toUInt64 >>> ((33 : Int32).toInt64.toUInt64 &&& Int64.toUInt64 63)).toInt64) / (24 : Int64) * (24 : Int64)).toInt32 X Y6) (fun X7 Y8 =>
    bi (f_Pan_crustOfAll 19 X7 Y8) (fun r11 X9 Y10 =>
    lt (m3 + r11) (fun v12 =>
    (l_Bri_years_23 x1 kx n v12 (m4 + (1 : Int32)) X9 Y10)))))))
def f_Bri_years (x1 : Int32) (X : HI) (Y : HL) : Option Out :=
    bi (f_Bri_isFromTo x1 (1 : Int32) (30 : Int32) X Y) (fun r3 X1 Y2 =>
    (if r3 = 0 then
    (rI (-2 : Int32) X1 Y2)
    else
    br 19 (f_Bri_fromNow X1 Y2) (fun X4 Y5 =>
    (l_Bri_years_23 x1 (fun w13 w14 X15 Y16 =>
    (rI w13 X15 Y16)) 256 (0 : Int32) (0 : Int32) X4 Y5))))
set_option maxRecDepth 4000 in
theorem jl_Bri_years_23 {K : KK} (hK : kOK K) (x1 : Int32) (kx : Int32 → Int32 → HI → HL → Option Out) (hkx : ∀ (m3 : Int32) (m4 : Int32) (X : HI) (Y : HL), JO K "BrinePans" prog_1_method_27_code 5 (some .int) rm_Bri_years 0 0 (MZ K) 74 [none, none, none, some (.int m3), none] [] X Y (kx m3 m4 X Y)) : ∀ (n : Nat) (m3 : Int32) (m4 : Int32) (X : HI) (Y : HL), JO K "BrinePans" prog_1_method_27_code 5 (some .int) rm_Bri_years 0 0 (MZ K) 23 [some (.ref 0), some (.int x1), some (.ref 19), some (.int m3), some (.int m4)] [] X Y (l_Bri_years_23 x1 kx n m3 m4 X Y) := by
  intro n
  induction n with
  | zero =>
    intro m3 m4 X Y
    rw [l_Bri_years_23]
    exact j_none
  | succ n ih =>
    intro m3 m4 X Y
    rw [l_Bri_years_23]
    refine j_iload (i := 4) (x := m4) (q := 25) d_Bri_years_23 rfl rfl ?_
    refine j_iload_n (i := 1) (x := x1) (q := 26) d_Bri_years_25 rfl rfl rfl ?_
    refine j_icmp_ge (t := 74) (q := 29) d_Bri_years_26 (by decide) rfl ?_ ?_
    · refine j_sub (L' := [none, none, none, some (.int m3), none]) ⟨rfl, trivial⟩ ?_
      exact hkx m3 m4 X Y
    · refine j_aload_n (i := 0) (x := 0) (q := 30) d_Bri_years_29 rfl rfl rfl ?_
      refine j_aload_n (i := 0) (x := 0) (q := 31) d_Bri_years_30 rfl rfl rfl ?_
      refine j_get (v := .long (Y 0)) (q := 34) d_Bri_years_31 fk_Bri_64 fv_0_10 rfl ?_
      refine j_ldc2 (v := 6364136223846793005) (q := 37) d_Bri_years_34 (gw_t 519 (by decide +kernel) (by decide +kernel)) rfl ?_
      refine j_lmul (q := 38) d_Bri_years_37 rfl ?_
      refine j_ldc2 (v := 1442695040888963407) (q := 41) d_Bri_years_38 (gw_t 520 (by decide +kernel) (by decide +kernel)) rfl ?_
      refine j_ladd (q := 42) d_Bri_years_41 rfl ?_
      refine j_putL (q := 45) d_Bri_years_42 fp_Bri_64 fwl_0 rfl (fun Y6 => ?_)
      refine j_aload_n (i := 2) (x := 19) (q := 46) d_Bri_years_45 rfl rfl rfl ?_
      refine j_aload_n (i := 0) (x := 0) (q := 47) d_Bri_years_46 rfl rfl rfl ?_
      refine j_get (v := .long (Y6 0)) (q := 50) d_Bri_years_47 fk_Bri_64 fv_0_10 rfl ?_
      refine j_bipush (v := 33) (q := 52) d_Bri_years_50 (by decide +kernel) rfl ?_
      refine j_lushr (q := 53) d_Bri_years_52 rfl ?_
      refine j_ldc2 (v := 24) (q := 56) d_Bri_years_53 (gw_t 521 (by decide +kernel) (by decide +kernel)) rfl ?_
      refine j_lrem (q := 57) d_Bri_years_56 rfl ?_
      refine j_l2i (q := 58) d_Bri_years_57 rfl ?_
      refine j_callVNv (a := 19) (S := []) (q := 61) [.int ((((Y6 0).toUInt64 >>> ((33 : Int32).toInt64.toUInt64 &&& Int64.toUInt64 63)).toInt64) - (((Y6 0).toUInt64 >>> ((33 : Int32).toInt64.toUInt64 &&& Int64.toUInt64 63)).toInt64) / (24 : Int64) * (24 : Int64)).toInt32] d_Bri_years_58 mw_Pan_befall mv_Pan_befall ml_Bri_238 (ob_P isP_19) rfl rfl (c_Pan_befall hK 19 isP_19 ((((Y6 0).toUInt64 >>> ((33 : Int32).toInt64.toUInt64 &&& Int64.toUInt64 63)).toInt64) - (((Y6 0).toUInt64 >>> ((33 : Int32).toInt64.toUInt64 &&& Int64.toUInt64 63)).toInt64) / (24 : Int64) * (24 : Int64)).toInt32 X Y6) ⟨⟨rfl, rfl⟩, ⟨Nat.le_of_ble_eq_true rfl, Nat.le_of_ble_eq_true rfl⟩, ⟨Nat.le_refl 0, Nat.le_refl 0⟩⟩ (Nat.le_of_ble_eq_true rfl) rfl (fun X7 Y8 => ?_)
      refine j_iload_n (i := 3) (x := m3) (q := 62) d_Bri_years_61 rfl rfl rfl ?_
      refine j_aload_n (i := 2) (x := 19) (q := 63) d_Bri_years_62 rfl rfl rfl ?_
      refine j_callVNi (a := 19) (S := [.int m3]) (q := 66) [] d_Bri_years_63 mw_Pan_crustOfAll mv_Pan_crustOfAll ml_Bri_114 (ob_P isP_19) rfl rfl (c_Pan_crustOfAll hK 19 isP_19 X7 Y8) ⟨⟨rfl, rfl⟩, ⟨Nat.le_of_ble_eq_true rfl, Nat.le_of_ble_eq_true rfl⟩, ⟨Nat.le_refl 0, Nat.le_refl 0⟩⟩ (Nat.le_of_ble_eq_true rfl) rfl (fun r11 X9 Y10 => ?_)
      refine j_iadd (q := 67) d_Bri_years_66 rfl ?_
      refine j_lt (fun v12 => ?_)
      refine j_istore_n (i := 3) (L' := [some (.ref 0), some (.int x1), some (.ref 19), some (.int v12), some (.int m4)]) (q := 68) d_Bri_years_67 rfl (by decide) rfl rfl rfl ?_
      refine j_iinc (i := 4) (x := m4) (d := 1) (L' := [some (.ref 0), some (.int x1), some (.ref 19), some (.int v12), some (.int (m4 + (1 : Int32)))]) (q := 71) d_Bri_years_68 rfl (by decide) (by decide) rfl rfl rfl ?_
      refine j_goto (q := 23) d_Bri_years_71 (by decide) ?_
      refine j_sub (L' := [some (.ref 0), some (.int x1), some (.ref 19), some (.int v12), some (.int (m4 + (1 : Int32)))]) ⟨rfl, ⟨rfl, ⟨rfl, ⟨rfl, ⟨rfl, trivial⟩⟩⟩⟩⟩ ?_
      exact ih v12 (m4 + (1 : Int32)) X9 Y10
set_option maxRecDepth 4000 in
theorem c_Bri_years {K : KK} (hK : kOK K) (x1 : Int32) (X : HI) (Y : HL) : CT K y_Bri_years prog_1_method_27_code 5 (some .int) rm_Bri_years [.ref 0, .int x1] X Y (f_Bri_years x1 X Y) := by
  refine ct_of hK (L := [some (.ref 0), some (.int x1), none, none, none]) (by decide) ⟨rfl, ⟨rfl, trivial⟩⟩ (Nat.le_of_ble_eq_true rfl) ?_
  unfold f_Bri_years
  refine j_iload_n (i := 1) (x := x1) (q := 1) d_Bri_years_0 rfl rfl rfl ?_
  refine j_iconst (v := 1) (q := 2) d_Bri_years_1 (by decide) rfl ?_
  refine j_bipush (v := 30) (q := 4) d_Bri_years_2 (by decide +kernel) rfl ?_
  refine j_callSi (S := []) (q := 7) [.int x1, .int (1 : Int32), .int (30 : Int32)] d_Bri_years_4 mw_Bri_isFromTo ms_Bri_isFromTo ml_Bri_171 rfl rfl (c_Bri_isFromTo hK x1 (1 : Int32) (30 : Int32) X Y) ⟨⟨rfl, rfl⟩, ⟨Nat.le_of_ble_eq_true rfl, Nat.le_of_ble_eq_true rfl⟩, ⟨Nat.le_refl 0, Nat.le_refl 0⟩⟩ (Nat.le_of_ble_eq_true rfl) rfl (fun r3 X1 Y2 => ?_)
  refine j_if_ne (t := 13) (q := 10) d_Bri_years_7 (by decide) rfl ?_ ?_
  · refine j_aload_n (i := 0) (x := 0) (q := 14) d_Bri_years_13 rfl rfl rfl ?_
    refine j_callVr (a := 0) (ra := 19) (S := []) (q := 17) [] d_Bri_years_14 mw_Bri_fromNow mv_Bri_fromNow ml_Bri_143 ob_0 rfl rfl (c_Bri_fromNow hK X1 Y2) ⟨⟨rfl, rfl⟩, ⟨Nat.le_of_ble_eq_true rfl, Nat.le_of_ble_eq_true rfl⟩, ⟨Nat.le_refl 0, Nat.le_refl 0⟩⟩ (Nat.le_of_ble_eq_true rfl) rfl (fun X4 Y5 => ?_)
    refine j_astore_n (i := 2) (L' := [some (.ref 0), some (.int x1), some (.ref 19), none, none]) (q := 18) d_Bri_years_17 rfl (by decide) rfl rfl rfl ?_
    refine j_iconst (v := 0) (q := 19) d_Bri_years_18 (by decide) rfl ?_
    refine j_istore_n (i := 3) (L' := [some (.ref 0), some (.int x1), some (.ref 19), some (.int (0 : Int32)), none]) (q := 20) d_Bri_years_19 rfl (by decide) rfl rfl rfl ?_
    refine j_iconst (v := 0) (q := 21) d_Bri_years_20 (by decide) rfl ?_
    refine j_istore (i := 4) (L' := [some (.ref 0), some (.int x1), some (.ref 19), some (.int (0 : Int32)), some (.int (0 : Int32))]) (q := 23) d_Bri_years_21 (by decide) rfl rfl rfl ?_
    refine j_sub (L' := [some (.ref 0), some (.int x1), some (.ref 19), some (.int (0 : Int32)), some (.int (0 : Int32))]) ⟨rfl, ⟨rfl, ⟨rfl, ⟨rfl, ⟨rfl, trivial⟩⟩⟩⟩⟩ ?_
    refine jl_Bri_years_23 hK x1 _ (fun w13 w14 X15 Y16 => ?_) 256 (0 : Int32) (0 : Int32) X4 Y5
    refine j_iload_n (i := 3) (x := w13) (q := 75) d_Bri_years_74 rfl rfl rfl ?_
    exact j_iret d_Bri_years_75
  · refine j_bipush (v := -2) (q := 12) d_Bri_years_10 (by decide +kernel) rfl ?_
    exact j_iret d_Bri_years_12
def f_Bri_keep (x1 : Int32) (X : HI) (Y : HL) : Option Out :=
    bi (f_Bri_isFromTo x1 (0 : Int32) (1 : Int32) X Y) (fun r3 X1 Y2 =>
    (if r3 = 0 then
    (rI (-1 : Int32) X1 Y2)
    else
    gd (ixb x1 2) (
    bv (f_Pan_copy (rA 12 x1.toNatClampNeg) 16 X1 Y2) (fun X5 Y6 =>
    wr (ixb x1 2) (up X5 13 x1.toNatClampNeg (vp_nar .boolean (1 : Int32))) (fun X7 =>
    (rI (X7 16 5) X7 Y6))))))
set_option maxRecDepth 4000 in
theorem c_Bri_keep {K : KK} (hK : kOK K) (x1 : Int32) (X : HI) (Y : HL) : CT K y_Bri_keep prog_1_method_28_code 2 (some .int) rm_Bri_keep [.ref 0, .int x1] X Y (f_Bri_keep x1 X Y) := by
  refine ct_of hK (L := [some (.ref 0), some (.int x1)]) (by decide) ⟨rfl, ⟨rfl, trivial⟩⟩ (Nat.le_of_ble_eq_true rfl) ?_
  unfold f_Bri_keep
  refine j_iload_n (i := 1) (x := x1) (q := 1) d_Bri_keep_0 rfl rfl rfl ?_
  refine j_iconst (v := 0) (q := 2) d_Bri_keep_1 (by decide) rfl ?_
  refine j_iconst (v := 1) (q := 3) d_Bri_keep_2 (by decide) rfl ?_
  refine j_callSi (S := []) (q := 6) [.int x1, .int (0 : Int32), .int (1 : Int32)] d_Bri_keep_3 mw_Bri_isFromTo ms_Bri_isFromTo ml_Bri_171 rfl rfl (c_Bri_isFromTo hK x1 (0 : Int32) (1 : Int32) X Y) ⟨⟨rfl, rfl⟩, ⟨Nat.le_of_ble_eq_true rfl, Nat.le_of_ble_eq_true rfl⟩, ⟨Nat.le_refl 0, Nat.le_refl 0⟩⟩ (Nat.le_of_ble_eq_true rfl) rfl (fun r3 X1 Y2 => ?_)
  refine j_if_ne (t := 11) (q := 9) d_Bri_keep_6 (by decide) rfl ?_ ?_
  · refine j_aload_n (i := 0) (x := 0) (q := 12) d_Bri_keep_11 rfl rfl rfl ?_
    refine j_get (v := .ref 12) (q := 15) d_Bri_keep_12 fk_Bri_49 fv_0_6 rfl ?_
    refine j_iload_n (i := 1) (x := x1) (q := 16) d_Bri_keep_15 rfl rfl rfl ?_
    refine j_aald (q := 17) d_Bri_keep_16 ar_12 rfl (fun hr4 => ?_)
    refine j_aload_n (i := 0) (x := 0) (q := 18) d_Bri_keep_17 rfl rfl rfl ?_
    refine j_get (v := .ref 16) (q := 21) d_Bri_keep_18 fk_Bri_28 fv_0_2 rfl ?_
    refine j_callVNv (a := (rA 12 x1.toNatClampNeg)) (S := []) (q := 24) [.ref 16] d_Bri_keep_21 mw_Pan_copy mv_Pan_copy ml_Bri_241 (ob_P (isP_r12 hr4)) rfl rfl (c_Pan_copy hK (rA 12 x1.toNatClampNeg) 16 (isP_r12 hr4) isP_16 X1 Y2) ⟨⟨rfl, rfl⟩, ⟨Nat.le_of_ble_eq_true rfl, Nat.le_of_ble_eq_true rfl⟩, ⟨Nat.le_refl 0, Nat.le_refl 0⟩⟩ (Nat.le_of_ble_eq_true rfl) rfl (fun X5 Y6 => ?_)
    refine j_aload_n (i := 0) (x := 0) (q := 25) d_Bri_keep_24 rfl rfl rfl ?_
    refine j_get (v := .ref 13) (q := 28) d_Bri_keep_25 fk_Bri_53 fv_0_7 rfl ?_
    refine j_iload_n (i := 1) (x := x1) (q := 29) d_Bri_keep_28 rfl rfl rfl ?_
    refine j_iconst (v := 1) (q := 30) d_Bri_keep_29 (by decide) rfl ?_
    refine j_zast (q := 31) d_Bri_keep_30 az_13 rfl (fun X7 => ?_)
    refine j_aload_n (i := 0) (x := 0) (q := 32) d_Bri_keep_31 rfl rfl rfl ?_
    refine j_get (v := .ref 16) (q := 35) d_Bri_keep_32 fk_Bri_28 fv_0_2 rfl ?_
    refine j_get (v := .int (X7 16 5)) (q := 38) d_Bri_keep_35 fk_Bri_92 (fv_P5 isP_16) rfl ?_
    exact j_iret d_Bri_keep_38
  · refine j_iconst (v := -1) (q := 10) d_Bri_keep_9 (by decide) rfl ?_
    exact j_iret d_Bri_keep_10
def f_Bri_again (x1 : Int32) (X : HI) (Y : HL) : Option Out :=
    bi (f_Bri_isFromTo x1 (0 : Int32) (1 : Int32) X Y) (fun r3 X1 Y2 =>
    (if r3 = 0 then
    (rI (-1 : Int32) X1 Y2)
    else
    gd (ixb x1 2) (
    (if (X1 13 x1.toNatClampNeg) = 0 then
    (rI (-3 : Int32) X1 Y2)
    else
    gd (ixb x1 2) (
    bv (f_Pan_copy 16 (rA 12 x1.toNatClampNeg) X1 Y2) (fun X5 Y6 =>
    bv (f_Act_clear X5 Y6) (fun X7 Y8 =>
    (rI (X7 16 5) X7 Y8))))))))
set_option maxRecDepth 4000 in
theorem c_Bri_again {K : KK} (hK : kOK K) (x1 : Int32) (X : HI) (Y : HL) : CT K y_Bri_again prog_1_method_29_code 2 (some .int) rm_Bri_again [.ref 0, .int x1] X Y (f_Bri_again x1 X Y) := by
  refine ct_of hK (L := [some (.ref 0), some (.int x1)]) (by decide) ⟨rfl, ⟨rfl, trivial⟩⟩ (Nat.le_of_ble_eq_true rfl) ?_
  unfold f_Bri_again
  refine j_iload_n (i := 1) (x := x1) (q := 1) d_Bri_again_0 rfl rfl rfl ?_
  refine j_iconst (v := 0) (q := 2) d_Bri_again_1 (by decide) rfl ?_
  refine j_iconst (v := 1) (q := 3) d_Bri_again_2 (by decide) rfl ?_
  refine j_callSi (S := []) (q := 6) [.int x1, .int (0 : Int32), .int (1 : Int32)] d_Bri_again_3 mw_Bri_isFromTo ms_Bri_isFromTo ml_Bri_171 rfl rfl (c_Bri_isFromTo hK x1 (0 : Int32) (1 : Int32) X Y) ⟨⟨rfl, rfl⟩, ⟨Nat.le_of_ble_eq_true rfl, Nat.le_of_ble_eq_true rfl⟩, ⟨Nat.le_refl 0, Nat.le_refl 0⟩⟩ (Nat.le_of_ble_eq_true rfl) rfl (fun r3 X1 Y2 => ?_)
  refine j_if_ne (t := 11) (q := 9) d_Bri_again_6 (by decide) rfl ?_ ?_
  · refine j_aload_n (i := 0) (x := 0) (q := 12) d_Bri_again_11 rfl rfl rfl ?_
    refine j_get (v := .ref 13) (q := 15) d_Bri_again_12 fk_Bri_53 fv_0_7 rfl ?_
    refine j_iload_n (i := 1) (x := x1) (q := 16) d_Bri_again_15 rfl rfl rfl ?_
    refine j_zald (q := 17) d_Bri_again_16 az_13 rfl ?_
    refine j_if_ne (t := 23) (q := 20) d_Bri_again_17 (by decide) rfl ?_ ?_
    · refine j_aload_n (i := 0) (x := 0) (q := 24) d_Bri_again_23 rfl rfl rfl ?_
      refine j_get (v := .ref 16) (q := 27) d_Bri_again_24 fk_Bri_28 fv_0_2 rfl ?_
      refine j_aload_n (i := 0) (x := 0) (q := 28) d_Bri_again_27 rfl rfl rfl ?_
      refine j_get (v := .ref 12) (q := 31) d_Bri_again_28 fk_Bri_49 fv_0_6 rfl ?_
      refine j_iload_n (i := 1) (x := x1) (q := 32) d_Bri_again_31 rfl rfl rfl ?_
      refine j_aald (q := 33) d_Bri_again_32 ar_12 rfl (fun hr4 => ?_)
      refine j_callVNv (a := 16) (S := []) (q := 36) [.ref (rA 12 x1.toNatClampNeg)] d_Bri_again_33 mw_Pan_copy mv_Pan_copy ml_Bri_241 (ob_P isP_16) rfl rfl (c_Pan_copy hK 16 (rA 12 x1.toNatClampNeg) isP_16 (isP_r12 hr4) X1 Y2) ⟨⟨rfl, rfl⟩, ⟨Nat.le_of_ble_eq_true rfl, Nat.le_of_ble_eq_true rfl⟩, ⟨Nat.le_refl 0, Nat.le_refl 0⟩⟩ (Nat.le_of_ble_eq_true rfl) rfl (fun X5 Y6 => ?_)
      refine j_aload_n (i := 0) (x := 0) (q := 37) d_Bri_again_36 rfl rfl rfl ?_
      refine j_get (v := .ref 6) (q := 40) d_Bri_again_37 fk_Bri_38 fv_0_4 rfl ?_
      refine j_callVNv (a := 6) (S := []) (q := 43) [] d_Bri_again_40 mw_Act_clear mv_Act_clear ml_Bri_83 ob_6 rfl rfl (c_Act_clear hK X5 Y6) ⟨⟨rfl, rfl⟩, ⟨Nat.le_of_ble_eq_true rfl, Nat.le_of_ble_eq_true rfl⟩, ⟨Nat.le_refl 0, Nat.le_refl 0⟩⟩ (Nat.le_of_ble_eq_true rfl) rfl (fun X7 Y8 => ?_)
      refine j_aload_n (i := 0) (x := 0) (q := 44) d_Bri_again_43 rfl rfl rfl ?_
      refine j_get (v := .ref 16) (q := 47) d_Bri_again_44 fk_Bri_28 fv_0_2 rfl ?_
      refine j_get (v := .int (X7 16 5)) (q := 50) d_Bri_again_47 fk_Bri_92 (fv_P5 isP_16) rfl ?_
      exact j_iret d_Bri_again_50
    · refine j_bipush (v := -3) (q := 22) d_Bri_again_20 (by decide +kernel) rfl ?_
      exact j_iret d_Bri_again_22
  · refine j_iconst (v := -1) (q := 10) d_Bri_again_9 (by decide) rfl ?_
    exact j_iret d_Bri_again_10
