def f_Mod_in (x0 : Int64) (x2 : Int64) (x4 : Int64) (X : HI) (Y : HL) : Option Out :=
    (if (lg_cmp x0 x2) < 0 then
    (rI (0 : Int32) X Y)
    else
    (if 0 < (lg_cmp x0 x4) then
    (rI (0 : Int32) X Y)
    else
    (rI (1 : Int32) X Y)))
set_option maxRecDepth 4000 in
theorem c_Mod_in {K : KK} (hK : kOK K) (x0 : Int64) (x2 : Int64) (x4 : Int64) (X : HI) (Y : HL) : CT K y_Mod_in prog_8_method_3_code 6 (some .boolean) rm_Mod_in [.long x0, .long x2, .long x4] X Y (f_Mod_in x0 x2 x4 X Y) := by
  refine ct_of hK (L := [some (.long x0), none, some (.long x2), none, some (.long x4), none]) (by decide) ⟨rfl, ⟨rfl, ⟨rfl, trivial⟩⟩⟩ (Nat.le_of_ble_eq_true rfl) ?_
  unfold f_Mod_in
  refine j_lload_n (i := 0) (x := x0) (q := 1) d_Mod_in_0 rfl rfl rfl ?_
  refine j_lload_n (i := 2) (x := x2) (q := 2) d_Mod_in_1 rfl rfl rfl ?_
  refine j_lcmp (q := 3) d_Mod_in_2 rfl ?_
  refine j_if_lt (t := 17) (q := 6) d_Mod_in_3 (by decide) rfl ?_ ?_
  · refine j_iconst (v := 0) (q := 18) d_Mod_in_17 (by decide) rfl ?_
    exact j_zret d_Mod_in_18 (by decide)
  · refine j_lload_n (i := 0) (x := x0) (q := 7) d_Mod_in_6 rfl rfl rfl ?_
    refine j_lload (i := 4) (x := x4) (q := 9) d_Mod_in_7 rfl rfl ?_
    refine j_lcmp (q := 10) d_Mod_in_9 rfl ?_
    refine j_if_gt (t := 17) (q := 13) d_Mod_in_10 (by decide) rfl ?_ ?_
    · refine j_iconst (v := 0) (q := 18) d_Mod_in_17 (by decide) rfl ?_
      exact j_zret d_Mod_in_18 (by decide)
    · refine j_iconst (v := 1) (q := 14) d_Mod_in_13 (by decide) rfl ?_
      refine j_goto (q := 18) d_Mod_in_14 (by decide) ?_
      exact j_zret d_Mod_in_18 (by decide)
def f_Mod_has (x0 : Int32) (x1 : Int32) (X : HI) (Y : HL) : Option Out :=
    (if ((x0 >>> (x1 &&& 31)) &&& (1 : Int32)) = (1 : Int32) then
    (rI (1 : Int32) X Y)
    else
    (rI (0 : Int32) X Y))
set_option maxRecDepth 4000 in
theorem c_Mod_has {K : KK} (hK : kOK K) (x0 : Int32) (x1 : Int32) (X : HI) (Y : HL) : CT K y_Mod_has prog_8_method_4_code 2 (some .boolean) rm_Mod_has [.int x0, .int x1] X Y (f_Mod_has x0 x1 X Y) := by
  refine ct_of hK (L := [some (.int x0), some (.int x1)]) (by decide) ⟨rfl, ⟨rfl, trivial⟩⟩ (Nat.le_of_ble_eq_true rfl) ?_
  unfold f_Mod_has
  refine j_iload_n (i := 0) (x := x0) (q := 1) d_Mod_has_0 rfl rfl rfl ?_
  refine j_iload_n (i := 1) (x := x1) (q := 2) d_Mod_has_1 rfl rfl rfl ?_
  refine j_ishr (q := 3) d_Mod_has_2 rfl ?_
  refine j_iconst (v := 1) (q := 4) d_Mod_has_3 (by decide) rfl ?_
  refine j_iand (q := 5) d_Mod_has_4 rfl ?_
  refine j_iconst (v := 1) (q := 6) d_Mod_has_5 (by decide) rfl ?_
  refine j_icmp_ne (t := 13) (q := 9) d_Mod_has_6 (by decide) rfl ?_ ?_
  · refine j_iconst (v := 0) (q := 14) d_Mod_has_13 (by decide) rfl ?_
    exact j_zret d_Mod_has_14 (by decide)
  · refine j_iconst (v := 1) (q := 10) d_Mod_has_9 (by decide) rfl ?_
    refine j_goto (q := 14) d_Mod_has_10 (by decide) ?_
    exact j_zret d_Mod_has_14 (by decide)
def l_Mod_many_4 (x0 : Int32) (kx : Int32 → Int32 → HI → HL → Option Out) : Nat → Int32 → Int32 → HI → HL → Option Out
  | 0, _, _, _, _ => none
  | n + 1, m1, m2, X, Y =>
    (if (6 : Int32) ≤ m2 then
    (kx m1 m2 X Y)
    else
    lt (m1 + ((x0 >>> (m2 &&& 31)) &&& (1 : Int32))) (fun v1 =>
    (l_Mod_many_4 x0 kx n v1 (m2 + (1 : Int32)) X Y)))
def f_Mod_many (x0 : Int32) (X : HI) (Y : HL) : Option Out :=
    (l_Mod_many_4 x0 (fun w2 w3 X4 Y5 =>
    (rI w2 X4 Y5)) 256 (0 : Int32) (0 : Int32) X Y)
set_option maxRecDepth 4000 in
theorem jl_Mod_many_4 {K : KK} (hK : kOK K) (x0 : Int32) (kx : Int32 → Int32 → HI → HL → Option Out) (hkx : ∀ (m1 : Int32) (m2 : Int32) (X : HI) (Y : HL), JO K "BrinePansModel" prog_8_method_5_code 3 (some .int) rm_Mod_many 0 0 (MZ K) 24 [none, some (.int m1), none] [] X Y (kx m1 m2 X Y)) : ∀ (n : Nat) (m1 : Int32) (m2 : Int32) (X : HI) (Y : HL), JO K "BrinePansModel" prog_8_method_5_code 3 (some .int) rm_Mod_many 0 0 (MZ K) 4 [some (.int x0), some (.int m1), some (.int m2)] [] X Y (l_Mod_many_4 x0 kx n m1 m2 X Y) := by
  intro n
  induction n with
  | zero =>
    intro m1 m2 X Y
    rw [l_Mod_many_4]
    exact j_none
  | succ n ih =>
    intro m1 m2 X Y
    rw [l_Mod_many_4]
    refine j_iload_n (i := 2) (x := m2) (q := 5) d_Mod_many_4 rfl rfl rfl ?_
    refine j_bipush (v := 6) (q := 7) d_Mod_many_5 (by decide +kernel) rfl ?_
    refine j_icmp_ge (t := 24) (q := 10) d_Mod_many_7 (by decide) rfl ?_ ?_
    · refine j_sub (L' := [none, some (.int m1), none]) ⟨rfl, trivial⟩ ?_
      exact hkx m1 m2 X Y
    · refine j_iload_n (i := 1) (x := m1) (q := 11) d_Mod_many_10 rfl rfl rfl ?_
      refine j_iload_n (i := 0) (x := x0) (q := 12) d_Mod_many_11 rfl rfl rfl ?_
      refine j_iload_n (i := 2) (x := m2) (q := 13) d_Mod_many_12 rfl rfl rfl ?_
      refine j_ishr (q := 14) d_Mod_many_13 rfl ?_
      refine j_iconst (v := 1) (q := 15) d_Mod_many_14 (by decide) rfl ?_
      refine j_iand (q := 16) d_Mod_many_15 rfl ?_
      refine j_iadd (q := 17) d_Mod_many_16 rfl ?_
      refine j_lt (fun v1 => ?_)
      refine j_istore_n (i := 1) (L' := [some (.int x0), some (.int v1), some (.int m2)]) (q := 18) d_Mod_many_17 rfl (by decide) rfl rfl rfl ?_
      refine j_iinc (i := 2) (x := m2) (d := 1) (L' := [some (.int x0), some (.int v1), some (.int (m2 + (1 : Int32)))]) (q := 21) d_Mod_many_18 rfl (by decide) (by decide) rfl rfl rfl ?_
      refine j_goto (q := 4) d_Mod_many_21 (by decide) ?_
      refine j_sub (L' := [some (.int x0), some (.int v1), some (.int (m2 + (1 : Int32)))]) ⟨rfl, ⟨rfl, ⟨rfl, trivial⟩⟩⟩ ?_
      exact ih v1 (m2 + (1 : Int32)) X Y
set_option maxRecDepth 4000 in
theorem c_Mod_many {K : KK} (hK : kOK K) (x0 : Int32) (X : HI) (Y : HL) : CT K y_Mod_many prog_8_method_5_code 3 (some .int) rm_Mod_many [.int x0] X Y (f_Mod_many x0 X Y) := by
  refine ct_of hK (L := [some (.int x0), none, none]) (by decide) ⟨rfl, trivial⟩ (Nat.le_of_ble_eq_true rfl) ?_
  unfold f_Mod_many
  refine j_iconst (v := 0) (q := 1) d_Mod_many_0 (by decide) rfl ?_
  refine j_istore_n (i := 1) (L' := [some (.int x0), some (.int (0 : Int32)), none]) (q := 2) d_Mod_many_1 rfl (by decide) rfl rfl rfl ?_
  refine j_iconst (v := 0) (q := 3) d_Mod_many_2 (by decide) rfl ?_
  refine j_istore_n (i := 2) (L' := [some (.int x0), some (.int (0 : Int32)), some (.int (0 : Int32))]) (q := 4) d_Mod_many_3 rfl (by decide) rfl rfl rfl ?_
  refine j_sub (L' := [some (.int x0), some (.int (0 : Int32)), some (.int (0 : Int32))]) ⟨rfl, ⟨rfl, ⟨rfl, trivial⟩⟩⟩ ?_
  refine jl_Mod_many_4 hK x0 _ (fun w2 w3 X4 Y5 => ?_) 256 (0 : Int32) (0 : Int32) X Y
  refine j_iload_n (i := 1) (x := w2) (q := 25) d_Mod_many_24 rfl rfl rfl ?_
  exact j_iret d_Mod_many_25
def l_Mod_power_4 (x0 : Int32) (x1 : Int32) (kx : Int32 → Int32 → HI → HL → Option Out) : Nat → Int32 → Int32 → HI → HL → Option Out
  | 0, _, _, _, _ => none
  | n + 1, m2, m3, X, Y =>
    (if x1 ≤ m3 then
    (kx m2 m3 X Y)
    else
    lt (m2 * x0) (fun v1 =>
    (l_Mod_power_4 x0 x1 kx n v1 (m3 + (1 : Int32)) X Y)))
def f_Mod_power (x0 : Int32) (x1 : Int32) (X : HI) (Y : HL) : Option Out :=
    (l_Mod_power_4 x0 x1 (fun w2 w3 X4 Y5 =>
    (rI w2 X4 Y5)) 256 (1 : Int32) (0 : Int32) X Y)
set_option maxRecDepth 4000 in
theorem jl_Mod_power_4 {K : KK} (hK : kOK K) (x0 : Int32) (x1 : Int32) (kx : Int32 → Int32 → HI → HL → Option Out) (hkx : ∀ (m2 : Int32) (m3 : Int32) (X : HI) (Y : HL), JO K "BrinePansModel" prog_8_method_6_code 4 (some .int) rm_Mod_power 0 0 (MZ K) 19 [none, none, some (.int m2), none] [] X Y (kx m2 m3 X Y)) : ∀ (n : Nat) (m2 : Int32) (m3 : Int32) (X : HI) (Y : HL), JO K "BrinePansModel" prog_8_method_6_code 4 (some .int) rm_Mod_power 0 0 (MZ K) 4 [some (.int x0), some (.int x1), some (.int m2), some (.int m3)] [] X Y (l_Mod_power_4 x0 x1 kx n m2 m3 X Y) := by
  intro n
  induction n with
  | zero =>
    intro m2 m3 X Y
    rw [l_Mod_power_4]
    exact j_none
  | succ n ih =>
    intro m2 m3 X Y
    rw [l_Mod_power_4]
    refine j_iload_n (i := 3) (x := m3) (q := 5) d_Mod_power_4 rfl rfl rfl ?_
    refine j_iload_n (i := 1) (x := x1) (q := 6) d_Mod_power_5 rfl rfl rfl ?_
    refine j_icmp_ge (t := 19) (q := 9) d_Mod_power_6 (by decide) rfl ?_ ?_
    · refine j_sub (L' := [none, none, some (.int m2), none]) ⟨rfl, trivial⟩ ?_
      exact hkx m2 m3 X Y
    · refine j_iload_n (i := 2) (x := m2) (q := 10) d_Mod_power_9 rfl rfl rfl ?_
      refine j_iload_n (i := 0) (x := x0) (q := 11) d_Mod_power_10 rfl rfl rfl ?_
      refine j_imul (q := 12) d_Mod_power_11 rfl ?_
      refine j_lt (fun v1 => ?_)
      refine j_istore_n (i := 2) (L' := [some (.int x0), some (.int x1), some (.int v1), some (.int m3)]) (q := 13) d_Mod_power_12 rfl (by decide) rfl rfl rfl ?_
      refine j_iinc (i := 3) (x := m3) (d := 1) (L' := [some (.int x0), some (.int x1), some (.int v1), some (.int (m3 + (1 : Int32)))]) (q := 16) d_Mod_power_13 rfl (by decide) (by decide) rfl rfl rfl ?_
      refine j_goto (q := 4) d_Mod_power_16 (by decide) ?_
      refine j_sub (L' := [some (.int x0), some (.int x1), some (.int v1), some (.int (m3 + (1 : Int32)))]) ⟨rfl, ⟨rfl, ⟨rfl, ⟨rfl, trivial⟩⟩⟩⟩ ?_
      exact ih v1 (m3 + (1 : Int32)) X Y
set_option maxRecDepth 4000 in
theorem c_Mod_power {K : KK} (hK : kOK K) (x0 : Int32) (x1 : Int32) (X : HI) (Y : HL) : CT K y_Mod_power prog_8_method_6_code 4 (some .int) rm_Mod_power [.int x0, .int x1] X Y (f_Mod_power x0 x1 X Y) := by
  refine ct_of hK (L := [some (.int x0), some (.int x1), none, none]) (by decide) ⟨rfl, ⟨rfl, trivial⟩⟩ (Nat.le_of_ble_eq_true rfl) ?_
  unfold f_Mod_power
  refine j_iconst (v := 1) (q := 1) d_Mod_power_0 (by decide) rfl ?_
  refine j_istore_n (i := 2) (L' := [some (.int x0), some (.int x1), some (.int (1 : Int32)), none]) (q := 2) d_Mod_power_1 rfl (by decide) rfl rfl rfl ?_
  refine j_iconst (v := 0) (q := 3) d_Mod_power_2 (by decide) rfl ?_
  refine j_istore_n (i := 3) (L' := [some (.int x0), some (.int x1), some (.int (1 : Int32)), some (.int (0 : Int32))]) (q := 4) d_Mod_power_3 rfl (by decide) rfl rfl rfl ?_
  refine j_sub (L' := [some (.int x0), some (.int x1), some (.int (1 : Int32)), some (.int (0 : Int32))]) ⟨rfl, ⟨rfl, ⟨rfl, ⟨rfl, trivial⟩⟩⟩⟩ ?_
  refine jl_Mod_power_4 hK x0 x1 _ (fun w2 w3 X4 Y5 => ?_) 256 (1 : Int32) (0 : Int32) X Y
  refine j_iload_n (i := 2) (x := w2) (q := 20) d_Mod_power_19 rfl rfl rfl ?_
  exact j_iret d_Mod_power_20
def f_Mod_noPan (x1 : Int32) (X : HI) (Y : HL) : Option Out :=
    bi (f_Mod_in (x1.toInt64) (0 : Int64) ((X 70 4) - (1 : Int32)).toInt64 X Y) (fun r3 X1 Y2 =>
    (if r3 = 0 then
    (rI (1 : Int32) X1 Y2)
    else
    (rI (0 : Int32) X1 Y2)))
set_option maxRecDepth 4000 in
theorem c_Mod_noPan {K : KK} (hK : kOK K) (x1 : Int32) (X : HI) (Y : HL) : CT K y_Mod_noPan prog_8_method_7_code 2 (some .boolean) rm_Mod_noPan [.ref 70, .int x1] X Y (f_Mod_noPan x1 X Y) := by
  refine ct_of hK (L := [some (.ref 70), some (.int x1)]) (by decide) ⟨rfl, ⟨rfl, trivial⟩⟩ (Nat.le_of_ble_eq_true rfl) ?_
  unfold f_Mod_noPan
  refine j_iload_n (i := 1) (x := x1) (q := 1) d_Mod_noPan_0 rfl rfl rfl ?_
  refine j_i2l (q := 2) d_Mod_noPan_1 rfl ?_
  refine j_lconst (v := 0) (q := 3) d_Mod_noPan_2 (by decide) rfl ?_
  refine j_aload_n (i := 0) (x := 70) (q := 4) d_Mod_noPan_3 rfl rfl rfl ?_
  refine j_get (v := .int (X 70 4)) (q := 7) d_Mod_noPan_4 fk_Mod_60 fv_70_4 rfl ?_
  refine j_iconst (v := 1) (q := 8) d_Mod_noPan_7 (by decide) rfl ?_
  refine j_isub (q := 9) d_Mod_noPan_8 rfl ?_
  refine j_i2l (q := 10) d_Mod_noPan_9 rfl ?_
  refine j_callSi (S := []) (q := 13) [.long x1.toInt64, .long (0 : Int64), .long ((X 70 4) - (1 : Int32)).toInt64] d_Mod_noPan_10 mw_Mod_in ms_Mod_in ml_Mod_63 rfl rfl (c_Mod_in hK (x1.toInt64) (0 : Int64) ((X 70 4) - (1 : Int32)).toInt64 X Y) ⟨⟨rfl, rfl⟩, ⟨Nat.le_of_ble_eq_true rfl, Nat.le_of_ble_eq_true rfl⟩, ⟨Nat.le_refl 0, Nat.le_refl 0⟩⟩ (Nat.le_of_ble_eq_true rfl) rfl (fun r3 X1 Y2 => ?_)
  refine j_if_ne (t := 20) (q := 16) d_Mod_noPan_13 (by decide) rfl ?_ ?_
  · refine j_iconst (v := 0) (q := 21) d_Mod_noPan_20 (by decide) rfl ?_
    exact j_zret d_Mod_noPan_21 (by decide)
  · refine j_iconst (v := 1) (q := 17) d_Mod_noPan_16 (by decide) rfl ?_
    refine j_goto (q := 21) d_Mod_noPan_17 (by decide) ?_
    exact j_zret d_Mod_noPan_21 (by decide)
def f_Mod_noGate (x1 : Int32) (X : HI) (Y : HL) : Option Out :=
    bi (f_Mod_in (x1.toInt64) (0 : Int64) ((X 70 4) - (2 : Int32)).toInt64 X Y) (fun r3 X1 Y2 =>
    (if r3 = 0 then
    (rI (1 : Int32) X1 Y2)
    else
    (rI (0 : Int32) X1 Y2)))
set_option maxRecDepth 4000 in
theorem c_Mod_noGate {K : KK} (hK : kOK K) (x1 : Int32) (X : HI) (Y : HL) : CT K y_Mod_noGate prog_8_method_8_code 2 (some .boolean) rm_Mod_noGate [.ref 70, .int x1] X Y (f_Mod_noGate x1 X Y) := by
  refine ct_of hK (L := [some (.ref 70), some (.int x1)]) (by decide) ⟨rfl, ⟨rfl, trivial⟩⟩ (Nat.le_of_ble_eq_true rfl) ?_
  unfold f_Mod_noGate
  refine j_iload_n (i := 1) (x := x1) (q := 1) d_Mod_noGate_0 rfl rfl rfl ?_
  refine j_i2l (q := 2) d_Mod_noGate_1 rfl ?_
  refine j_lconst (v := 0) (q := 3) d_Mod_noGate_2 (by decide) rfl ?_
  refine j_aload_n (i := 0) (x := 70) (q := 4) d_Mod_noGate_3 rfl rfl rfl ?_
  refine j_get (v := .int (X 70 4)) (q := 7) d_Mod_noGate_4 fk_Mod_60 fv_70_4 rfl ?_
  refine j_iconst (v := 2) (q := 8) d_Mod_noGate_7 (by decide) rfl ?_
  refine j_isub (q := 9) d_Mod_noGate_8 rfl ?_
  refine j_i2l (q := 10) d_Mod_noGate_9 rfl ?_
  refine j_callSi (S := []) (q := 13) [.long x1.toInt64, .long (0 : Int64), .long ((X 70 4) - (2 : Int32)).toInt64] d_Mod_noGate_10 mw_Mod_in ms_Mod_in ml_Mod_63 rfl rfl (c_Mod_in hK (x1.toInt64) (0 : Int64) ((X 70 4) - (2 : Int32)).toInt64 X Y) ⟨⟨rfl, rfl⟩, ⟨Nat.le_of_ble_eq_true rfl, Nat.le_of_ble_eq_true rfl⟩, ⟨Nat.le_refl 0, Nat.le_refl 0⟩⟩ (Nat.le_of_ble_eq_true rfl) rfl (fun r3 X1 Y2 => ?_)
  refine j_if_ne (t := 20) (q := 16) d_Mod_noGate_13 (by decide) rfl ?_ ?_
  · refine j_iconst (v := 0) (q := 21) d_Mod_noGate_20 (by decide) rfl ?_
    exact j_zret d_Mod_noGate_21 (by decide)
  · refine j_iconst (v := 1) (q := 17) d_Mod_noGate_16 (by decide) rfl ?_
    refine j_goto (q := 21) d_Mod_noGate_17 (by decide) ?_
    exact j_zret d_Mod_noGate_21 (by decide)
def f_Mod_write (x1 : Int32) (X : HI) (Y : HL) : Option Out :=
    lh (up X 70 0 (0 : Int32)) (fun X1 =>
    bi (f_Mod_in (x1.toInt64) (0 : Int64) (255 : Int64) X1 Y) (fun r4 X2 Y3 =>
    (if r4 = 0 then
    (rI (-2 : Int32) X2 Y3)
    else
    (if (X2 70 2) = (36 : Int32) then
    (rI (-4 : Int32) X2 Y3)
    else
    wr (ixb (X2 70 2) 36) (up X2 71 (X2 70 2).toNatClampNeg x1) (fun X5 =>
    lh (up X5 70 2 ((X5 70 2) + (1 : Int32))) (fun X6 =>
    (rI (X6 70 2) X6 Y3)))))))
set_option maxRecDepth 4000 in
theorem c_Mod_write {K : KK} (hK : kOK K) (x1 : Int32) (X : HI) (Y : HL) : CT K y_Mod_write prog_8_method_9_code 2 (some .int) rm_Mod_write [.ref 70, .int x1] X Y (f_Mod_write x1 X Y) := by
  refine ct_of hK (L := [some (.ref 70), some (.int x1)]) (by decide) ⟨rfl, ⟨rfl, trivial⟩⟩ (Nat.le_of_ble_eq_true rfl) ?_
  unfold f_Mod_write
  refine j_aload_n (i := 0) (x := 70) (q := 1) d_Mod_write_0 rfl rfl rfl ?_
  refine j_iconst (v := 0) (q := 2) d_Mod_write_1 (by decide) rfl ?_
  refine j_putI (q := 5) d_Mod_write_2 fp_Mod_56 fw_70_0 rfl (fun X1 => ?_)
  refine j_iload_n (i := 1) (x := x1) (q := 6) d_Mod_write_5 rfl rfl rfl ?_
  refine j_i2l (q := 7) d_Mod_write_6 rfl ?_
  refine j_lconst (v := 0) (q := 8) d_Mod_write_7 (by decide) rfl ?_
  refine j_ldc2 (v := 255) (q := 11) d_Mod_write_8 (gw_t 638 (by decide +kernel) (by decide +kernel)) rfl ?_
  refine j_callSi (S := []) (q := 14) [.long x1.toInt64, .long (0 : Int64), .long (255 : Int64)] d_Mod_write_11 mw_Mod_in ms_Mod_in ml_Mod_63 rfl rfl (c_Mod_in hK (x1.toInt64) (0 : Int64) (255 : Int64) X1 Y) ⟨⟨rfl, rfl⟩, ⟨Nat.le_of_ble_eq_true rfl, Nat.le_of_ble_eq_true rfl⟩, ⟨Nat.le_refl 0, Nat.le_refl 0⟩⟩ (Nat.le_of_ble_eq_true rfl) rfl (fun r4 X2 Y3 => ?_)
  refine j_if_ne (t := 20) (q := 17) d_Mod_write_14 (by decide) rfl ?_ ?_
  · refine j_aload_n (i := 0) (x := 70) (q := 21) d_Mod_write_20 rfl rfl rfl ?_
    refine j_get (v := .int (X2 70 2)) (q := 24) d_Mod_write_21 fk_Mod_69 fv_70_2 rfl ?_
    refine j_bipush (v := 36) (q := 26) d_Mod_write_24 (by decide +kernel) rfl ?_
    refine j_icmp_ne (t := 32) (q := 29) d_Mod_write_26 (by decide) rfl ?_ ?_
    · refine j_aload_n (i := 0) (x := 70) (q := 33) d_Mod_write_32 rfl rfl rfl ?_
      refine j_get (v := .ref 71) (q := 36) d_Mod_write_33 fk_Mod_7 fv_70_1 rfl ?_
      refine j_aload_n (i := 0) (x := 70) (q := 37) d_Mod_write_36 rfl rfl rfl ?_
      refine j_get (v := .int (X2 70 2)) (q := 40) d_Mod_write_37 fk_Mod_69 fv_70_2 rfl ?_
      refine j_iload_n (i := 1) (x := x1) (q := 41) d_Mod_write_40 rfl rfl rfl ?_
      refine j_iast (q := 42) d_Mod_write_41 ai_71 rfl (fun X5 => ?_)
      refine j_aload_n (i := 0) (x := 70) (q := 43) d_Mod_write_42 rfl rfl rfl ?_
      refine j_dup (q := 44) d_Mod_write_43 rfl rfl ?_
      refine j_get (v := .int (X5 70 2)) (q := 47) d_Mod_write_44 fk_Mod_69 fv_70_2 rfl ?_
      refine j_iconst (v := 1) (q := 48) d_Mod_write_47 (by decide) rfl ?_
      refine j_iadd (q := 49) d_Mod_write_48 rfl ?_
      refine j_putI (q := 52) d_Mod_write_49 fp_Mod_69 fw_70_2 rfl (fun X6 => ?_)
      refine j_aload_n (i := 0) (x := 70) (q := 53) d_Mod_write_52 rfl rfl rfl ?_
      refine j_get (v := .int (X6 70 2)) (q := 56) d_Mod_write_53 fk_Mod_69 fv_70_2 rfl ?_
      exact j_iret d_Mod_write_56
    · refine j_bipush (v := -4) (q := 31) d_Mod_write_29 (by decide +kernel) rfl ?_
      exact j_iret d_Mod_write_31
  · refine j_bipush (v := -2) (q := 19) d_Mod_write_17 (by decide +kernel) rfl ?_
    exact j_iret d_Mod_write_19
def f_Mod_wipe (X : HI) (Y : HL) : Option Out :=
    lh (up X 70 0 (0 : Int32)) (fun X1 =>
    lt (X1 70 2) (fun v2 =>
    lh (up X1 70 2 (0 : Int32)) (fun X3 =>
    (rI v2 X3 Y))))
set_option maxRecDepth 4000 in
theorem c_Mod_wipe {K : KK} (hK : kOK K) (X : HI) (Y : HL) : CT K y_Mod_wipe prog_8_method_10_code 2 (some .int) rm_Mod_wipe [.ref 70] X Y (f_Mod_wipe X Y) := by
  refine ct_of hK (L := [some (.ref 70), none]) (by decide) ⟨rfl, trivial⟩ (Nat.le_of_ble_eq_true rfl) ?_
  unfold f_Mod_wipe
  refine j_aload_n (i := 0) (x := 70) (q := 1) d_Mod_wipe_0 rfl rfl rfl ?_
  refine j_iconst (v := 0) (q := 2) d_Mod_wipe_1 (by decide) rfl ?_
  refine j_putI (q := 5) d_Mod_wipe_2 fp_Mod_56 fw_70_0 rfl (fun X1 => ?_)
  refine j_aload_n (i := 0) (x := 70) (q := 6) d_Mod_wipe_5 rfl rfl rfl ?_
  refine j_get (v := .int (X1 70 2)) (q := 9) d_Mod_wipe_6 fk_Mod_69 fv_70_2 rfl ?_
  refine j_lt (fun v2 => ?_)
  refine j_istore_n (i := 1) (L' := [some (.ref 70), some (.int v2)]) (q := 10) d_Mod_wipe_9 rfl (by decide) rfl rfl rfl ?_
  refine j_aload_n (i := 0) (x := 70) (q := 11) d_Mod_wipe_10 rfl rfl rfl ?_
  refine j_iconst (v := 0) (q := 12) d_Mod_wipe_11 (by decide) rfl ?_
  refine j_putI (q := 15) d_Mod_wipe_12 fp_Mod_69 fw_70_2 rfl (fun X3 => ?_)
  refine j_iload_n (i := 1) (x := v2) (q := 16) d_Mod_wipe_15 rfl rfl rfl ?_
  exact j_iret d_Mod_wipe_16
def f_Mod_figure (x1 : Int32) (x2 : Int32) (X : HI) (Y : HL) : Option Out :=
    (if (X 70 3) = (X 70 2) then
    (rI (-9 : Int32) X Y)
    else
    gd (ixb (X 70 3) 36) (
    bi (f_Mod_in ((X 71 (X 70 3).toNatClampNeg) - (48 : Int32)).toInt64 (x1.toInt64) (x2.toInt64) X Y) (fun r3 X1 Y2 =>
    (if r3 = 0 then
    (rI (-9 : Int32) X1 Y2)
    else
    lh (up X1 70 3 ((X1 70 3) + (1 : Int32))) (fun X4 =>
    gd (ixb ((X4 70 3) - (1 : Int32)) 36) (
    (rI ((X4 71 ((X4 70 3) - (1 : Int32)).toNatClampNeg) - (48 : Int32)) X4 Y2)))))))
set_option maxRecDepth 4000 in
theorem c_Mod_figure {K : KK} (hK : kOK K) (x1 : Int32) (x2 : Int32) (X : HI) (Y : HL) : CT K y_Mod_figure prog_8_method_11_code 3 (some .int) rm_Mod_figure [.ref 70, .int x1, .int x2] X Y (f_Mod_figure x1 x2 X Y) := by
  refine ct_of hK (L := [some (.ref 70), some (.int x1), some (.int x2)]) (by decide) ⟨rfl, ⟨rfl, ⟨rfl, trivial⟩⟩⟩ (Nat.le_of_ble_eq_true rfl) ?_
  unfold f_Mod_figure
  refine j_aload_n (i := 0) (x := 70) (q := 1) d_Mod_figure_0 rfl rfl rfl ?_
  refine j_get (v := .int (X 70 3)) (q := 4) d_Mod_figure_1 fk_Mod_72 fv_70_3 rfl ?_
  refine j_aload_n (i := 0) (x := 70) (q := 5) d_Mod_figure_4 rfl rfl rfl ?_
  refine j_get (v := .int (X 70 2)) (q := 8) d_Mod_figure_5 fk_Mod_69 fv_70_2 rfl ?_
  refine j_icmp_eq (t := 34) (q := 11) d_Mod_figure_8 (by decide) rfl ?_ ?_
  · refine j_bipush (v := -9) (q := 36) d_Mod_figure_34 (by decide +kernel) rfl ?_
    exact j_iret d_Mod_figure_36
  · refine j_aload_n (i := 0) (x := 70) (q := 12) d_Mod_figure_11 rfl rfl rfl ?_
    refine j_get (v := .ref 71) (q := 15) d_Mod_figure_12 fk_Mod_7 fv_70_1 rfl ?_
    refine j_aload_n (i := 0) (x := 70) (q := 16) d_Mod_figure_15 rfl rfl rfl ?_
    refine j_get (v := .int (X 70 3)) (q := 19) d_Mod_figure_16 fk_Mod_72 fv_70_3 rfl ?_
    refine j_iald (q := 20) d_Mod_figure_19 ai_71 rfl ?_
    refine j_bipush (v := 48) (q := 22) d_Mod_figure_20 (by decide +kernel) rfl ?_
    refine j_isub (q := 23) d_Mod_figure_22 rfl ?_
    refine j_i2l (q := 24) d_Mod_figure_23 rfl ?_
    refine j_iload_n (i := 1) (x := x1) (q := 25) d_Mod_figure_24 rfl rfl rfl ?_
    refine j_i2l (q := 26) d_Mod_figure_25 rfl ?_
    refine j_iload_n (i := 2) (x := x2) (q := 27) d_Mod_figure_26 rfl rfl rfl ?_
    refine j_i2l (q := 28) d_Mod_figure_27 rfl ?_
    refine j_callSi (S := []) (q := 31) [.long ((X 71 (X 70 3).toNatClampNeg) - (48 : Int32)).toInt64, .long x1.toInt64, .long x2.toInt64] d_Mod_figure_28 mw_Mod_in ms_Mod_in ml_Mod_63 rfl rfl (c_Mod_in hK ((X 71 (X 70 3).toNatClampNeg) - (48 : Int32)).toInt64 (x1.toInt64) (x2.toInt64) X Y) ⟨⟨rfl, rfl⟩, ⟨Nat.le_of_ble_eq_true rfl, Nat.le_of_ble_eq_true rfl⟩, ⟨Nat.le_refl 0, Nat.le_refl 0⟩⟩ (Nat.le_of_ble_eq_true rfl) rfl (fun r3 X1 Y2 => ?_)
    refine j_if_ne (t := 37) (q := 34) d_Mod_figure_31 (by decide) rfl ?_ ?_
    · refine j_aload_n (i := 0) (x := 70) (q := 38) d_Mod_figure_37 rfl rfl rfl ?_
      refine j_dup (q := 39) d_Mod_figure_38 rfl rfl ?_
      refine j_get (v := .int (X1 70 3)) (q := 42) d_Mod_figure_39 fk_Mod_72 fv_70_3 rfl ?_
      refine j_iconst (v := 1) (q := 43) d_Mod_figure_42 (by decide) rfl ?_
      refine j_iadd (q := 44) d_Mod_figure_43 rfl ?_
      refine j_putI (q := 47) d_Mod_figure_44 fp_Mod_72 fw_70_3 rfl (fun X4 => ?_)
      refine j_aload_n (i := 0) (x := 70) (q := 48) d_Mod_figure_47 rfl rfl rfl ?_
      refine j_get (v := .ref 71) (q := 51) d_Mod_figure_48 fk_Mod_7 fv_70_1 rfl ?_
      refine j_aload_n (i := 0) (x := 70) (q := 52) d_Mod_figure_51 rfl rfl rfl ?_
      refine j_get (v := .int (X4 70 3)) (q := 55) d_Mod_figure_52 fk_Mod_72 fv_70_3 rfl ?_
      refine j_iconst (v := 1) (q := 56) d_Mod_figure_55 (by decide) rfl ?_
      refine j_isub (q := 57) d_Mod_figure_56 rfl ?_
      refine j_iald (q := 58) d_Mod_figure_57 ai_71 rfl ?_
      refine j_bipush (v := 48) (q := 60) d_Mod_figure_58 (by decide +kernel) rfl ?_
      refine j_isub (q := 61) d_Mod_figure_60 rfl ?_
      exact j_iret d_Mod_figure_61
    · refine j_bipush (v := -9) (q := 36) d_Mod_figure_34 (by decide +kernel) rfl ?_
      exact j_iret d_Mod_figure_36
def b_Mod_readOnePan_44 (x1 : Int32) (x2 : Int32) (s0 : Int32) (X : HI) (Y : HL) : Option Out :=
    (if s0 = (-9 : Int32) then
    (rI (0 : Int32) X Y)
    else
    wr (ixb ((3 : Int32) * (X 70 8)) 18) (up X 74 ((3 : Int32) * (X 70 8)).toNatClampNeg x1) (fun X10 =>
    wr (ixb (((3 : Int32) * (X10 70 8)) + (1 : Int32)) 18) (up X10 74 (((3 : Int32) * (X10 70 8)) + (1 : Int32)).toNatClampNeg x2) (fun X11 =>
    wr (ixb (((3 : Int32) * (X11 70 8)) + (2 : Int32)) 18) (up X11 74 (((3 : Int32) * (X11 70 8)) + (2 : Int32)).toNatClampNeg ((10 : Int32) * s0)) (fun X12 =>
    lh (up X12 70 8 ((X12 70 8) + (1 : Int32))) (fun X13 =>
    (rI (1 : Int32) X13 Y))))))
def b_Mod_readOnePan_25 (x1 : Int32) (s0 : Int32) (X : HI) (Y : HL) : Option Out :=
    (if s0 = (-9 : Int32) then
    (b_Mod_readOnePan_44 x1 s0 (-9 : Int32) X Y)
    else
    bi (f_Mod_figure (0 : Int32) (9 : Int32) X Y) (fun r9 X7 Y8 =>
    (b_Mod_readOnePan_44 x1 s0 r9 X7 Y8)))
def f_Mod_readOnePan (X : HI) (Y : HL) : Option Out :=
    bi (f_Mod_figure (0 : Int32) (3 : Int32) X Y) (fun r3 X1 Y2 =>
    (if r3 = (-9 : Int32) then
    (b_Mod_readOnePan_25 r3 (-9 : Int32) X1 Y2)
    else
    bi (f_Mod_figure (0 : Int32) (6 : Int32) X1 Y2) (fun r6 X4 Y5 =>
    (b_Mod_readOnePan_25 r3 r6 X4 Y5))))
set_option maxRecDepth 4000 in
theorem jb_Mod_readOnePan_44 {K : KK} (hK : kOK K) (x1 : Int32) (x2 : Int32) (s0 : Int32) (X : HI) (Y : HL) : JO K "BrinePansModel" prog_8_method_12_code 4 (some .boolean) rm_Mod_readOnePan 0 0 (MZ K) 44 [some (.ref 70), some (.int x1), some (.int x2), none] [.int s0] X Y (b_Mod_readOnePan_44 x1 x2 s0 X Y) := by
  unfold b_Mod_readOnePan_44
  refine j_istore_n (i := 3) (L' := [some (.ref 70), some (.int x1), some (.int x2), some (.int s0)]) (q := 45) d_Mod_readOnePan_44 rfl (by decide) rfl rfl rfl ?_
  refine j_iload_n (i := 3) (x := s0) (q := 46) d_Mod_readOnePan_45 rfl rfl rfl ?_
  refine j_bipush (v := -9) (q := 48) d_Mod_readOnePan_46 (by decide +kernel) rfl ?_
  refine j_icmp_ne (t := 53) (q := 51) d_Mod_readOnePan_48 (by decide) rfl ?_ ?_
  · refine j_aload_n (i := 0) (x := 70) (q := 54) d_Mod_readOnePan_53 rfl rfl rfl ?_
    refine j_get (v := .ref 74) (q := 57) d_Mod_readOnePan_54 fk_Mod_19 fv_70_9 rfl ?_
    refine j_iconst (v := 3) (q := 58) d_Mod_readOnePan_57 (by decide) rfl ?_
    refine j_aload_n (i := 0) (x := 70) (q := 59) d_Mod_readOnePan_58 rfl rfl rfl ?_
    refine j_get (v := .int (X 70 8)) (q := 62) d_Mod_readOnePan_59 fk_Mod_79 fv_70_8 rfl ?_
    refine j_imul (q := 63) d_Mod_readOnePan_62 rfl ?_
    refine j_iload_n (i := 1) (x := x1) (q := 64) d_Mod_readOnePan_63 rfl rfl rfl ?_
    refine j_iast (q := 65) d_Mod_readOnePan_64 ai_74 rfl (fun X10 => ?_)
    refine j_aload_n (i := 0) (x := 70) (q := 66) d_Mod_readOnePan_65 rfl rfl rfl ?_
    refine j_get (v := .ref 74) (q := 69) d_Mod_readOnePan_66 fk_Mod_19 fv_70_9 rfl ?_
    refine j_iconst (v := 3) (q := 70) d_Mod_readOnePan_69 (by decide) rfl ?_
    refine j_aload_n (i := 0) (x := 70) (q := 71) d_Mod_readOnePan_70 rfl rfl rfl ?_
    refine j_get (v := .int (X10 70 8)) (q := 74) d_Mod_readOnePan_71 fk_Mod_79 fv_70_8 rfl ?_
    refine j_imul (q := 75) d_Mod_readOnePan_74 rfl ?_
    refine j_iconst (v := 1) (q := 76) d_Mod_readOnePan_75 (by decide) rfl ?_
    refine j_iadd (q := 77) d_Mod_readOnePan_76 rfl ?_
    refine j_iload_n (i := 2) (x := x2) (q := 78) d_Mod_readOnePan_77 rfl rfl rfl ?_
    refine j_iast (q := 79) d_Mod_readOnePan_78 ai_74 rfl (fun X11 => ?_)
    refine j_aload_n (i := 0) (x := 70) (q := 80) d_Mod_readOnePan_79 rfl rfl rfl ?_
    refine j_get (v := .ref 74) (q := 83) d_Mod_readOnePan_80 fk_Mod_19 fv_70_9 rfl ?_
    refine j_iconst (v := 3) (q := 84) d_Mod_readOnePan_83 (by decide) rfl ?_
    refine j_aload_n (i := 0) (x := 70) (q := 85) d_Mod_readOnePan_84 rfl rfl rfl ?_
    refine j_get (v := .int (X11 70 8)) (q := 88) d_Mod_readOnePan_85 fk_Mod_79 fv_70_8 rfl ?_
    refine j_imul (q := 89) d_Mod_readOnePan_88 rfl ?_
    refine j_iconst (v := 2) (q := 90) d_Mod_readOnePan_89 (by decide) rfl ?_
    refine j_iadd (q := 91) d_Mod_readOnePan_90 rfl ?_
    refine j_bipush (v := 10) (q := 93) d_Mod_readOnePan_91 (by decide +kernel) rfl ?_
    refine j_iload_n (i := 3) (x := s0) (q := 94) d_Mod_readOnePan_93 rfl rfl rfl ?_
    refine j_imul (q := 95) d_Mod_readOnePan_94 rfl ?_
    refine j_iast (q := 96) d_Mod_readOnePan_95 ai_74 rfl (fun X12 => ?_)
    refine j_aload_n (i := 0) (x := 70) (q := 97) d_Mod_readOnePan_96 rfl rfl rfl ?_
    refine j_dup (q := 98) d_Mod_readOnePan_97 rfl rfl ?_
    refine j_get (v := .int (X12 70 8)) (q := 101) d_Mod_readOnePan_98 fk_Mod_79 fv_70_8 rfl ?_
    refine j_iconst (v := 1) (q := 102) d_Mod_readOnePan_101 (by decide) rfl ?_
    refine j_iadd (q := 103) d_Mod_readOnePan_102 rfl ?_
    refine j_putI (q := 106) d_Mod_readOnePan_103 fp_Mod_79 fw_70_8 rfl (fun X13 => ?_)
    refine j_iconst (v := 1) (q := 107) d_Mod_readOnePan_106 (by decide) rfl ?_
    exact j_zret d_Mod_readOnePan_107 (by decide)
  · refine j_iconst (v := 0) (q := 52) d_Mod_readOnePan_51 (by decide) rfl ?_
    exact j_zret d_Mod_readOnePan_52 (by decide)
set_option maxRecDepth 4000 in
theorem jb_Mod_readOnePan_25 {K : KK} (hK : kOK K) (x1 : Int32) (s0 : Int32) (X : HI) (Y : HL) : JO K "BrinePansModel" prog_8_method_12_code 4 (some .boolean) rm_Mod_readOnePan 0 0 (MZ K) 25 [some (.ref 70), some (.int x1), none, none] [.int s0] X Y (b_Mod_readOnePan_25 x1 s0 X Y) := by
  unfold b_Mod_readOnePan_25
  refine j_istore_n (i := 2) (L' := [some (.ref 70), some (.int x1), some (.int s0), none]) (q := 26) d_Mod_readOnePan_25 rfl (by decide) rfl rfl rfl ?_
  refine j_iload_n (i := 2) (x := s0) (q := 27) d_Mod_readOnePan_26 rfl rfl rfl ?_
  refine j_bipush (v := -9) (q := 29) d_Mod_readOnePan_27 (by decide +kernel) rfl ?_
  refine j_icmp_ne (t := 37) (q := 32) d_Mod_readOnePan_29 (by decide) rfl ?_ ?_
  · refine j_aload_n (i := 0) (x := 70) (q := 38) d_Mod_readOnePan_37 rfl rfl rfl ?_
    refine j_iconst (v := 0) (q := 39) d_Mod_readOnePan_38 (by decide) rfl ?_
    refine j_bipush (v := 9) (q := 41) d_Mod_readOnePan_39 (by decide +kernel) rfl ?_
    refine j_callVi (a := 70) (S := []) (q := 44) [.int (0 : Int32), .int (9 : Int32)] d_Mod_readOnePan_41 mw_Mod_figure mv_Mod_figure ml_Mod_75 ob_70 rfl rfl (c_Mod_figure hK (0 : Int32) (9 : Int32) X Y) ⟨⟨rfl, rfl⟩, ⟨Nat.le_of_ble_eq_true rfl, Nat.le_of_ble_eq_true rfl⟩, ⟨Nat.le_refl 0, Nat.le_refl 0⟩⟩ (Nat.le_of_ble_eq_true rfl) rfl (fun r9 X7 Y8 => ?_)
    refine j_sub (L' := [some (.ref 70), some (.int x1), some (.int s0), none]) ⟨rfl, ⟨rfl, ⟨rfl, trivial⟩⟩⟩ ?_
    exact jb_Mod_readOnePan_44 hK x1 s0 r9 X7 Y8
  · refine j_bipush (v := -9) (q := 34) d_Mod_readOnePan_32 (by decide +kernel) rfl ?_
    refine j_goto (q := 44) d_Mod_readOnePan_34 (by decide) ?_
    refine j_sub (L' := [some (.ref 70), some (.int x1), some (.int s0), none]) ⟨rfl, ⟨rfl, ⟨rfl, trivial⟩⟩⟩ ?_
    exact jb_Mod_readOnePan_44 hK x1 s0 (-9 : Int32) X Y
set_option maxRecDepth 4000 in
theorem c_Mod_readOnePan {K : KK} (hK : kOK K) (X : HI) (Y : HL) : CT K y_Mod_readOnePan prog_8_method_12_code 4 (some .boolean) rm_Mod_readOnePan [.ref 70] X Y (f_Mod_readOnePan X Y) := by
  refine ct_of hK (L := [some (.ref 70), none, none, none]) (by decide) ⟨rfl, trivial⟩ (Nat.le_of_ble_eq_true rfl) ?_
  unfold f_Mod_readOnePan
  refine j_aload_n (i := 0) (x := 70) (q := 1) d_Mod_readOnePan_0 rfl rfl rfl ?_
  refine j_iconst (v := 0) (q := 2) d_Mod_readOnePan_1 (by decide) rfl ?_
  refine j_iconst (v := 3) (q := 3) d_Mod_readOnePan_2 (by decide) rfl ?_
  refine j_callVi (a := 70) (S := []) (q := 6) [.int (0 : Int32), .int (3 : Int32)] d_Mod_readOnePan_3 mw_Mod_figure mv_Mod_figure ml_Mod_75 ob_70 rfl rfl (c_Mod_figure hK (0 : Int32) (3 : Int32) X Y) ⟨⟨rfl, rfl⟩, ⟨Nat.le_of_ble_eq_true rfl, Nat.le_of_ble_eq_true rfl⟩, ⟨Nat.le_refl 0, Nat.le_refl 0⟩⟩ (Nat.le_of_ble_eq_true rfl) rfl (fun r3 X1 Y2 => ?_)
  refine j_istore_n (i := 1) (L' := [some (.ref 70), some (.int r3), none, none]) (q := 7) d_Mod_readOnePan_6 rfl (by decide) rfl rfl rfl ?_
  refine j_iload_n (i := 1) (x := r3) (q := 8) d_Mod_readOnePan_7 rfl rfl rfl ?_
  refine j_bipush (v := -9) (q := 10) d_Mod_readOnePan_8 (by decide +kernel) rfl ?_
  refine j_icmp_ne (t := 18) (q := 13) d_Mod_readOnePan_10 (by decide) rfl ?_ ?_
  · refine j_aload_n (i := 0) (x := 70) (q := 19) d_Mod_readOnePan_18 rfl rfl rfl ?_
    refine j_iconst (v := 0) (q := 20) d_Mod_readOnePan_19 (by decide) rfl ?_
    refine j_bipush (v := 6) (q := 22) d_Mod_readOnePan_20 (by decide +kernel) rfl ?_
    refine j_callVi (a := 70) (S := []) (q := 25) [.int (0 : Int32), .int (6 : Int32)] d_Mod_readOnePan_22 mw_Mod_figure mv_Mod_figure ml_Mod_75 ob_70 rfl rfl (c_Mod_figure hK (0 : Int32) (6 : Int32) X1 Y2) ⟨⟨rfl, rfl⟩, ⟨Nat.le_of_ble_eq_true rfl, Nat.le_of_ble_eq_true rfl⟩, ⟨Nat.le_refl 0, Nat.le_refl 0⟩⟩ (Nat.le_of_ble_eq_true rfl) rfl (fun r6 X4 Y5 => ?_)
    refine j_sub (L' := [some (.ref 70), some (.int r3), none, none]) ⟨rfl, ⟨rfl, trivial⟩⟩ ?_
    exact jb_Mod_readOnePan_25 hK r3 r6 X4 Y5
  · refine j_bipush (v := -9) (q := 15) d_Mod_readOnePan_13 (by decide +kernel) rfl ?_
    refine j_goto (q := 25) d_Mod_readOnePan_15 (by decide) ?_
    refine j_sub (L' := [some (.ref 70), some (.int r3), none, none]) ⟨rfl, ⟨rfl, trivial⟩⟩ ?_
    exact jb_Mod_readOnePan_25 hK r3 (-9 : Int32) X1 Y2
def b_Mod_readOneSky_41 (s0 : Int32) (s1 : Int32) (X : HI) (Y : HL) : Option Out :=
    wr (ixb s1 5) (up X 75 s1.toNatClampNeg s0) (fun X4 =>
    lh (up X4 70 10 ((X4 70 10) + (1 : Int32))) (fun X5 =>
    (rI (1 : Int32) X5 Y)))
def b_Mod_readOneSky_10 (x1 : Int32) (s0 : Int32) (X : HI) (Y : HL) : Option Out :=
    bi (f_Mod_figure s0 (4 : Int32) X Y) (fun r3 X1 Y2 =>
    (if r3 = (-9 : Int32) then
    (rI (0 : Int32) X1 Y2)
    else
    (if x1 = 0 then
    (b_Mod_readOneSky_41 r3 (X1 70 10) X1 Y2)
    else
    (b_Mod_readOneSky_41 (-r3) (X1 70 10) X1 Y2))))
def f_Mod_readOneSky (x1 : Int32) (X : HI) (Y : HL) : Option Out :=
    (if x1 = 0 then
    (b_Mod_readOneSky_10 x1 (0 : Int32) X Y)
    else
    (b_Mod_readOneSky_10 x1 (1 : Int32) X Y))
set_option maxRecDepth 4000 in
theorem jb_Mod_readOneSky_41 {K : KK} (hK : kOK K) (s0 : Int32) (s1 : Int32) (X : HI) (Y : HL) : JO K "BrinePansModel" prog_8_method_13_code 3 (some .boolean) rm_Mod_readOneSky 0 0 (MZ K) 41 [some (.ref 70), none, none] [.int s0, .int s1, .ref 75] X Y (b_Mod_readOneSky_41 s0 s1 X Y) := by
  unfold b_Mod_readOneSky_41
  refine j_iast (q := 42) d_Mod_readOneSky_41 ai_75 rfl (fun X4 => ?_)
  refine j_aload_n (i := 0) (x := 70) (q := 43) d_Mod_readOneSky_42 rfl rfl rfl ?_
  refine j_dup (q := 44) d_Mod_readOneSky_43 rfl rfl ?_
  refine j_get (v := .int (X4 70 10)) (q := 47) d_Mod_readOneSky_44 fk_Mod_82 fv_70_10 rfl ?_
  refine j_iconst (v := 1) (q := 48) d_Mod_readOneSky_47 (by decide) rfl ?_
  refine j_iadd (q := 49) d_Mod_readOneSky_48 rfl ?_
  refine j_putI (q := 52) d_Mod_readOneSky_49 fp_Mod_82 fw_70_10 rfl (fun X5 => ?_)
  refine j_iconst (v := 1) (q := 53) d_Mod_readOneSky_52 (by decide) rfl ?_
  exact j_zret d_Mod_readOneSky_53 (by decide)
set_option maxRecDepth 4000 in
theorem jb_Mod_readOneSky_10 {K : KK} (hK : kOK K) (x1 : Int32) (s0 : Int32) (X : HI) (Y : HL) : JO K "BrinePansModel" prog_8_method_13_code 3 (some .boolean) rm_Mod_readOneSky 0 0 (MZ K) 10 [some (.ref 70), some (.int x1), none] [.int s0, .ref 70] X Y (b_Mod_readOneSky_10 x1 s0 X Y) := by
  unfold b_Mod_readOneSky_10
  refine j_iconst (v := 4) (q := 11) d_Mod_readOneSky_10 (by decide) rfl ?_
  refine j_callVi (a := 70) (S := []) (q := 14) [.int s0, .int (4 : Int32)] d_Mod_readOneSky_11 mw_Mod_figure mv_Mod_figure ml_Mod_75 ob_70 rfl rfl (c_Mod_figure hK s0 (4 : Int32) X Y) ⟨⟨rfl, rfl⟩, ⟨Nat.le_of_ble_eq_true rfl, Nat.le_of_ble_eq_true rfl⟩, ⟨Nat.le_refl 0, Nat.le_refl 0⟩⟩ (Nat.le_of_ble_eq_true rfl) rfl (fun r3 X1 Y2 => ?_)
  refine j_istore_n (i := 2) (L' := [some (.ref 70), some (.int x1), some (.int r3)]) (q := 15) d_Mod_readOneSky_14 rfl (by decide) rfl rfl rfl ?_
  refine j_iload_n (i := 2) (x := r3) (q := 16) d_Mod_readOneSky_15 rfl rfl rfl ?_
  refine j_bipush (v := -9) (q := 18) d_Mod_readOneSky_16 (by decide +kernel) rfl ?_
  refine j_icmp_ne (t := 23) (q := 21) d_Mod_readOneSky_18 (by decide) rfl ?_ ?_
  · refine j_aload_n (i := 0) (x := 70) (q := 24) d_Mod_readOneSky_23 rfl rfl rfl ?_
    refine j_get (v := .ref 75) (q := 27) d_Mod_readOneSky_24 fk_Mod_22 fv_70_11 rfl ?_
    refine j_aload_n (i := 0) (x := 70) (q := 28) d_Mod_readOneSky_27 rfl rfl rfl ?_
    refine j_get (v := .int (X1 70 10)) (q := 31) d_Mod_readOneSky_28 fk_Mod_82 fv_70_10 rfl ?_
    refine j_iload_n (i := 1) (x := x1) (q := 32) d_Mod_readOneSky_31 rfl rfl rfl ?_
    refine j_if_eq (t := 40) (q := 35) d_Mod_readOneSky_32 (by decide) rfl ?_ ?_
    · refine j_iload_n (i := 2) (x := r3) (q := 41) d_Mod_readOneSky_40 rfl rfl rfl ?_
      refine j_sub (L' := [some (.ref 70), none, none]) ⟨rfl, trivial⟩ ?_
      exact jb_Mod_readOneSky_41 hK r3 (X1 70 10) X1 Y2
    · refine j_iload_n (i := 2) (x := r3) (q := 36) d_Mod_readOneSky_35 rfl rfl rfl ?_
      refine j_ineg (q := 37) d_Mod_readOneSky_36 rfl ?_
      refine j_goto (q := 41) d_Mod_readOneSky_37 (by decide) ?_
      refine j_sub (L' := [some (.ref 70), none, none]) ⟨rfl, trivial⟩ ?_
      exact jb_Mod_readOneSky_41 hK (-r3) (X1 70 10) X1 Y2
  · refine j_iconst (v := 0) (q := 22) d_Mod_readOneSky_21 (by decide) rfl ?_
    exact j_zret d_Mod_readOneSky_22 (by decide)
set_option maxRecDepth 4000 in
theorem c_Mod_readOneSky {K : KK} (hK : kOK K) (x1 : Int32) (X : HI) (Y : HL) : CT K y_Mod_readOneSky prog_8_method_13_code 3 (some .boolean) rm_Mod_readOneSky [.ref 70, .int x1] X Y (f_Mod_readOneSky x1 X Y) := by
  refine ct_of hK (L := [some (.ref 70), some (.int x1), none]) (by decide) ⟨rfl, ⟨rfl, trivial⟩⟩ (Nat.le_of_ble_eq_true rfl) ?_
  unfold f_Mod_readOneSky
  refine j_aload_n (i := 0) (x := 70) (q := 1) d_Mod_readOneSky_0 rfl rfl rfl ?_
  refine j_iload_n (i := 1) (x := x1) (q := 2) d_Mod_readOneSky_1 rfl rfl rfl ?_
  refine j_if_eq (t := 9) (q := 5) d_Mod_readOneSky_2 (by decide) rfl ?_ ?_
  · refine j_iconst (v := 0) (q := 10) d_Mod_readOneSky_9 (by decide) rfl ?_
    refine j_sub (L' := [some (.ref 70), some (.int x1), none]) ⟨rfl, ⟨rfl, trivial⟩⟩ ?_
    exact jb_Mod_readOneSky_10 hK x1 (0 : Int32) X Y
  · refine j_iconst (v := 1) (q := 6) d_Mod_readOneSky_5 (by decide) rfl ?_
    refine j_goto (q := 10) d_Mod_readOneSky_6 (by decide) ?_
    refine j_sub (L' := [some (.ref 70), some (.int x1), none]) ⟨rfl, ⟨rfl, trivial⟩⟩ ?_
    exact jb_Mod_readOneSky_10 hK x1 (1 : Int32) X Y
def b_Mod_readThing_76 (X : HI) (Y : HL) : Option Out :=
    lh (up X 70 3 ((X 70 3) - (1 : Int32))) (fun X3 =>
    (rI (0 : Int32) X3 Y))
def b_Mod_readThing_72 (s0 : Int32) (X : HI) (Y : HL) : Option Out :=
    bi (f_Mod_readOneSky s0 X Y) (fun r6 X4 Y5 =>
    (gd (zb r6) (rI r6 X4 Y5)))
def b_Mod_readThing_52 (x1 : Int32) (X : HI) (Y : HL) : Option Out :=
    (if (5 : Int32) ≤ (X 70 10) then
    (b_Mod_readThing_76 X Y)
    else
    (if x1 = (82 : Int32) then
    (b_Mod_readThing_72 (1 : Int32) X Y)
    else
    (b_Mod_readThing_72 (0 : Int32) X Y)))
def b_Mod_readThing_40 (x1 : Int32) (X : HI) (Y : HL) : Option Out :=
    (if x1 = (83 : Int32) then
    (b_Mod_readThing_52 x1 X Y)
    else
    (if x1 = (82 : Int32) then
    (b_Mod_readThing_52 x1 X Y)
    else
    (b_Mod_readThing_76 X Y)))
def f_Mod_readThing (X : HI) (Y : HL) : Option Out :=
    gd (ixb (X 70 3) 36) (
    lt (X 71 (X 70 3).toNatClampNeg) (fun v1 =>
    lh (up X 70 3 ((X 70 3) + (1 : Int32))) (fun X2 =>
    (if v1 = (78 : Int32) then
    (if (6 : Int32) ≤ (X2 70 8) then
    (b_Mod_readThing_40 v1 X2 Y)
    else
    bi (f_Mod_readOnePan X2 Y) (fun r9 X7 Y8 =>
    (gd (zb r9) (rI r9 X7 Y8))))
    else
    (b_Mod_readThing_40 v1 X2 Y)))))
set_option maxRecDepth 4000 in
theorem jb_Mod_readThing_76 {K : KK} (hK : kOK K) (X : HI) (Y : HL) : JO K "BrinePansModel" prog_8_method_14_code 2 (some .boolean) rm_Mod_readThing 0 0 (MZ K) 76 [some (.ref 70), none] [] X Y (b_Mod_readThing_76 X Y) := by
  unfold b_Mod_readThing_76
  refine j_aload_n (i := 0) (x := 70) (q := 77) d_Mod_readThing_76 rfl rfl rfl ?_
  refine j_dup (q := 78) d_Mod_readThing_77 rfl rfl ?_
  refine j_get (v := .int (X 70 3)) (q := 81) d_Mod_readThing_78 fk_Mod_72 fv_70_3 rfl ?_
  refine j_iconst (v := 1) (q := 82) d_Mod_readThing_81 (by decide) rfl ?_
  refine j_isub (q := 83) d_Mod_readThing_82 rfl ?_
  refine j_putI (q := 86) d_Mod_readThing_83 fp_Mod_72 fw_70_3 rfl (fun X3 => ?_)
  refine j_iconst (v := 0) (q := 87) d_Mod_readThing_86 (by decide) rfl ?_
  exact j_zret d_Mod_readThing_87 (by decide)
set_option maxRecDepth 4000 in
theorem jb_Mod_readThing_72 {K : KK} (hK : kOK K) (s0 : Int32) (X : HI) (Y : HL) : JO K "BrinePansModel" prog_8_method_14_code 2 (some .boolean) rm_Mod_readThing 0 0 (MZ K) 72 [none, none] [.int s0, .ref 70] X Y (b_Mod_readThing_72 s0 X Y) := by
  unfold b_Mod_readThing_72
  refine j_callVi (a := 70) (S := []) (q := 75) [.int s0] d_Mod_readThing_72 mw_Mod_readOneSky mv_Mod_readOneSky ml_Mod_89 ob_70 rfl rfl (c_Mod_readOneSky hK s0 X Y) ⟨⟨rfl, rfl⟩, ⟨Nat.le_of_ble_eq_true rfl, Nat.le_of_ble_eq_true rfl⟩, ⟨Nat.le_refl 0, Nat.le_refl 0⟩⟩ (Nat.le_of_ble_eq_true rfl) rfl (fun r6 X4 Y5 => ?_)
  exact j_zretG d_Mod_readThing_75
set_option maxRecDepth 4000 in
theorem jb_Mod_readThing_52 {K : KK} (hK : kOK K) (x1 : Int32) (X : HI) (Y : HL) : JO K "BrinePansModel" prog_8_method_14_code 2 (some .boolean) rm_Mod_readThing 0 0 (MZ K) 52 [some (.ref 70), some (.int x1)] [] X Y (b_Mod_readThing_52 x1 X Y) := by
  unfold b_Mod_readThing_52
  refine j_aload_n (i := 0) (x := 70) (q := 53) d_Mod_readThing_52 rfl rfl rfl ?_
  refine j_get (v := .int (X 70 10)) (q := 56) d_Mod_readThing_53 fk_Mod_82 fv_70_10 rfl ?_
  refine j_iconst (v := 5) (q := 57) d_Mod_readThing_56 (by decide) rfl ?_
  refine j_icmp_ge (t := 76) (q := 60) d_Mod_readThing_57 (by decide) rfl ?_ ?_
  · refine j_sub (L' := [some (.ref 70), none]) ⟨rfl, trivial⟩ ?_
    exact jb_Mod_readThing_76 hK X Y
  · refine j_aload_n (i := 0) (x := 70) (q := 61) d_Mod_readThing_60 rfl rfl rfl ?_
    refine j_iload_n (i := 1) (x := x1) (q := 62) d_Mod_readThing_61 rfl rfl rfl ?_
    refine j_bipush (v := 82) (q := 64) d_Mod_readThing_62 (by decide +kernel) rfl ?_
    refine j_icmp_ne (t := 71) (q := 67) d_Mod_readThing_64 (by decide) rfl ?_ ?_
    · refine j_iconst (v := 0) (q := 72) d_Mod_readThing_71 (by decide) rfl ?_
      refine j_sub (L' := [none, none]) trivial ?_
      exact jb_Mod_readThing_72 hK (0 : Int32) X Y
    · refine j_iconst (v := 1) (q := 68) d_Mod_readThing_67 (by decide) rfl ?_
      refine j_goto (q := 72) d_Mod_readThing_68 (by decide) ?_
      refine j_sub (L' := [none, none]) trivial ?_
      exact jb_Mod_readThing_72 hK (1 : Int32) X Y
set_option maxRecDepth 4000 in
theorem jb_Mod_readThing_40 {K : KK} (hK : kOK K) (x1 : Int32) (X : HI) (Y : HL) : JO K "BrinePansModel" prog_8_method_14_code 2 (some .boolean) rm_Mod_readThing 0 0 (MZ K) 40 [some (.ref 70), some (.int x1)] [] X Y (b_Mod_readThing_40 x1 X Y) := by
  unfold b_Mod_readThing_40
  refine j_iload_n (i := 1) (x := x1) (q := 41) d_Mod_readThing_40 rfl rfl rfl ?_
  refine j_bipush (v := 83) (q := 43) d_Mod_readThing_41 (by decide +kernel) rfl ?_
  refine j_icmp_eq (t := 52) (q := 46) d_Mod_readThing_43 (by decide) rfl ?_ ?_
  · refine j_sub (L' := [some (.ref 70), some (.int x1)]) ⟨rfl, ⟨rfl, trivial⟩⟩ ?_
    exact jb_Mod_readThing_52 hK x1 X Y
  · refine j_iload_n (i := 1) (x := x1) (q := 47) d_Mod_readThing_46 rfl rfl rfl ?_
    refine j_bipush (v := 82) (q := 49) d_Mod_readThing_47 (by decide +kernel) rfl ?_
    refine j_icmp_ne (t := 76) (q := 52) d_Mod_readThing_49 (by decide) rfl ?_ ?_
    · refine j_sub (L' := [some (.ref 70), none]) ⟨rfl, trivial⟩ ?_
      exact jb_Mod_readThing_76 hK X Y
    · refine j_sub (L' := [some (.ref 70), some (.int x1)]) ⟨rfl, ⟨rfl, trivial⟩⟩ ?_
      exact jb_Mod_readThing_52 hK x1 X Y
set_option maxRecDepth 4000 in
theorem c_Mod_readThing {K : KK} (hK : kOK K) (X : HI) (Y : HL) : CT K y_Mod_readThing prog_8_method_14_code 2 (some .boolean) rm_Mod_readThing [.ref 70] X Y (f_Mod_readThing X Y) := by
  refine ct_of hK (L := [some (.ref 70), none]) (by decide) ⟨rfl, trivial⟩ (Nat.le_of_ble_eq_true rfl) ?_
  unfold f_Mod_readThing
  refine j_aload_n (i := 0) (x := 70) (q := 1) d_Mod_readThing_0 rfl rfl rfl ?_
  refine j_get (v := .ref 71) (q := 4) d_Mod_readThing_1 fk_Mod_7 fv_70_1 rfl ?_
  refine j_aload_n (i := 0) (x := 70) (q := 5) d_Mod_readThing_4 rfl rfl rfl ?_
  refine j_get (v := .int (X 70 3)) (q := 8) d_Mod_readThing_5 fk_Mod_72 fv_70_3 rfl ?_
  refine j_iald (q := 9) d_Mod_readThing_8 ai_71 rfl ?_
  refine j_lt (fun v1 => ?_)
  refine j_istore_n (i := 1) (L' := [some (.ref 70), some (.int v1)]) (q := 10) d_Mod_readThing_9 rfl (by decide) rfl rfl rfl ?_
  refine j_aload_n (i := 0) (x := 70) (q := 11) d_Mod_readThing_10 rfl rfl rfl ?_
  refine j_dup (q := 12) d_Mod_readThing_11 rfl rfl ?_
  refine j_get (v := .int (X 70 3)) (q := 15) d_Mod_readThing_12 fk_Mod_72 fv_70_3 rfl ?_
  refine j_iconst (v := 1) (q := 16) d_Mod_readThing_15 (by decide) rfl ?_
  refine j_iadd (q := 17) d_Mod_readThing_16 rfl ?_
  refine j_putI (q := 20) d_Mod_readThing_17 fp_Mod_72 fw_70_3 rfl (fun X2 => ?_)
  refine j_iload_n (i := 1) (x := v1) (q := 21) d_Mod_readThing_20 rfl rfl rfl ?_
  refine j_bipush (v := 78) (q := 23) d_Mod_readThing_21 (by decide +kernel) rfl ?_
  refine j_icmp_ne (t := 40) (q := 26) d_Mod_readThing_23 (by decide) rfl ?_ ?_
  · refine j_sub (L' := [some (.ref 70), some (.int v1)]) ⟨rfl, ⟨rfl, trivial⟩⟩ ?_
    exact jb_Mod_readThing_40 hK v1 X2 Y
  · refine j_aload_n (i := 0) (x := 70) (q := 27) d_Mod_readThing_26 rfl rfl rfl ?_
    refine j_get (v := .int (X2 70 8)) (q := 30) d_Mod_readThing_27 fk_Mod_79 fv_70_8 rfl ?_
    refine j_bipush (v := 6) (q := 32) d_Mod_readThing_30 (by decide +kernel) rfl ?_
    refine j_icmp_ge (t := 40) (q := 35) d_Mod_readThing_32 (by decide) rfl ?_ ?_
    · refine j_sub (L' := [some (.ref 70), some (.int v1)]) ⟨rfl, ⟨rfl, trivial⟩⟩ ?_
      exact jb_Mod_readThing_40 hK v1 X2 Y
    · refine j_aload_n (i := 0) (x := 70) (q := 36) d_Mod_readThing_35 rfl rfl rfl ?_
      refine j_callVi (a := 70) (S := []) (q := 39) [] d_Mod_readThing_36 mw_Mod_readOnePan mv_Mod_readOnePan ml_Mod_85 ob_70 rfl rfl (c_Mod_readOnePan hK X2 Y) ⟨⟨rfl, rfl⟩, ⟨Nat.le_of_ble_eq_true rfl, Nat.le_of_ble_eq_true rfl⟩, ⟨Nat.le_refl 0, Nat.le_refl 0⟩⟩ (Nat.le_of_ble_eq_true rfl) rfl (fun r9 X7 Y8 => ?_)
      exact j_zretG d_Mod_readThing_39
def l_Mod_readMarsh_40 (kx : HI → HL → Option Out) : Nat → HI → HL → Option Out
  | 0, _, _ => none
  | n + 1, X, Y =>
    (if (X 70 2) ≤ (X 70 3) then
    (rI (-9 : Int32) X Y)
    else
    bi (f_Mod_readThing X Y) (fun r7 X5 Y6 =>
    (if r7 = 0 then
    (kx X5 Y6)
    else
    (l_Mod_readMarsh_40 kx n X5 Y6))))
def f_Mod_readMarsh (X : HI) (Y : HL) : Option Out :=
    lh (up X 70 3 (0 : Int32)) (fun X1 =>
    lh (up X1 70 8 (0 : Int32)) (fun X2 =>
    lh (up X2 70 10 (0 : Int32)) (fun X3 =>
    (if (X3 70 2) = 0 then
    (rI (0 : Int32) X3 Y)
    else
    gd (ixb (0 : Int32) 36) (
    (if (X3 71 (0 : Int32).toNatClampNeg) = (77 : Int32) then
    lh (up X3 70 3 (1 : Int32)) (fun X4 =>
    (l_Mod_readMarsh_40 (fun X8 Y9 =>
    (rI (X8 70 3) X8 Y9)) 256 X4 Y))
    else
    (rI (0 : Int32) X3 Y)))))))
set_option maxRecDepth 4000 in
theorem jl_Mod_readMarsh_40 {K : KK} (hK : kOK K) (kx : HI → HL → Option Out) (hkx : ∀ (X : HI) (Y : HL), JO K "BrinePansModel" prog_8_method_15_code 1 (some .int) rm_Mod_readMarsh 0 0 (MZ K) 58 [some (.ref 70)] [] X Y (kx X Y)) : ∀ (n : Nat) (X : HI) (Y : HL), JO K "BrinePansModel" prog_8_method_15_code 1 (some .int) rm_Mod_readMarsh 0 0 (MZ K) 40 [some (.ref 70)] [] X Y (l_Mod_readMarsh_40 kx n X Y) := by
  intro n
  induction n with
  | zero =>
    intro X Y
    rw [l_Mod_readMarsh_40]
    exact j_none
  | succ n ih =>
    intro X Y
    rw [l_Mod_readMarsh_40]
    refine j_aload_n (i := 0) (x := 70) (q := 41) d_Mod_readMarsh_40 rfl rfl rfl ?_
    refine j_get (v := .int (X 70 3)) (q := 44) d_Mod_readMarsh_41 fk_Mod_72 fv_70_3 rfl ?_
    refine j_aload_n (i := 0) (x := 70) (q := 45) d_Mod_readMarsh_44 rfl rfl rfl ?_
    refine j_get (v := .int (X 70 2)) (q := 48) d_Mod_readMarsh_45 fk_Mod_69 fv_70_2 rfl ?_
    refine j_icmp_ge (t := 63) (q := 51) d_Mod_readMarsh_48 (by decide) rfl ?_ ?_
    · refine j_bipush (v := -9) (q := 65) d_Mod_readMarsh_63 (by decide +kernel) rfl ?_
      exact j_iret d_Mod_readMarsh_65
    · refine j_aload_n (i := 0) (x := 70) (q := 52) d_Mod_readMarsh_51 rfl rfl rfl ?_
      refine j_callVi (a := 70) (S := []) (q := 55) [] d_Mod_readMarsh_52 mw_Mod_readThing mv_Mod_readThing ml_Mod_93 ob_70 rfl rfl (c_Mod_readThing hK X Y) ⟨⟨rfl, rfl⟩, ⟨Nat.le_of_ble_eq_true rfl, Nat.le_of_ble_eq_true rfl⟩, ⟨Nat.le_refl 0, Nat.le_refl 0⟩⟩ (Nat.le_of_ble_eq_true rfl) rfl (fun r7 X5 Y6 => ?_)
      refine j_if_ne (t := 40) (q := 58) d_Mod_readMarsh_55 (by decide) rfl ?_ ?_
      · refine j_sub (L' := [some (.ref 70)]) ⟨rfl, trivial⟩ ?_
        exact ih  X5 Y6
      · refine j_sub (L' := [some (.ref 70)]) ⟨rfl, trivial⟩ ?_
        exact hkx  X5 Y6
set_option maxRecDepth 4000 in
theorem c_Mod_readMarsh {K : KK} (hK : kOK K) (X : HI) (Y : HL) : CT K y_Mod_readMarsh prog_8_method_15_code 1 (some .int) rm_Mod_readMarsh [.ref 70] X Y (f_Mod_readMarsh X Y) := by
  refine ct_of hK (L := [some (.ref 70)]) (by decide) ⟨rfl, trivial⟩ (Nat.le_of_ble_eq_true rfl) ?_
  unfold f_Mod_readMarsh
  refine j_aload_n (i := 0) (x := 70) (q := 1) d_Mod_readMarsh_0 rfl rfl rfl ?_
  refine j_iconst (v := 0) (q := 2) d_Mod_readMarsh_1 (by decide) rfl ?_
  refine j_putI (q := 5) d_Mod_readMarsh_2 fp_Mod_72 fw_70_3 rfl (fun X1 => ?_)
  refine j_aload_n (i := 0) (x := 70) (q := 6) d_Mod_readMarsh_5 rfl rfl rfl ?_
  refine j_iconst (v := 0) (q := 7) d_Mod_readMarsh_6 (by decide) rfl ?_
  refine j_putI (q := 10) d_Mod_readMarsh_7 fp_Mod_79 fw_70_8 rfl (fun X2 => ?_)
  refine j_aload_n (i := 0) (x := 70) (q := 11) d_Mod_readMarsh_10 rfl rfl rfl ?_
  refine j_iconst (v := 0) (q := 12) d_Mod_readMarsh_11 (by decide) rfl ?_
  refine j_putI (q := 15) d_Mod_readMarsh_12 fp_Mod_82 fw_70_10 rfl (fun X3 => ?_)
  refine j_aload_n (i := 0) (x := 70) (q := 16) d_Mod_readMarsh_15 rfl rfl rfl ?_
  refine j_get (v := .int (X3 70 2)) (q := 19) d_Mod_readMarsh_16 fk_Mod_69 fv_70_2 rfl ?_
  refine j_if_eq (t := 33) (q := 22) d_Mod_readMarsh_19 (by decide) rfl ?_ ?_
  · refine j_iconst (v := 0) (q := 34) d_Mod_readMarsh_33 (by decide) rfl ?_
    exact j_iret d_Mod_readMarsh_34
  · refine j_aload_n (i := 0) (x := 70) (q := 23) d_Mod_readMarsh_22 rfl rfl rfl ?_
    refine j_get (v := .ref 71) (q := 26) d_Mod_readMarsh_23 fk_Mod_7 fv_70_1 rfl ?_
    refine j_iconst (v := 0) (q := 27) d_Mod_readMarsh_26 (by decide) rfl ?_
    refine j_iald (q := 28) d_Mod_readMarsh_27 ai_71 rfl ?_
    refine j_bipush (v := 77) (q := 30) d_Mod_readMarsh_28 (by decide +kernel) rfl ?_
    refine j_icmp_eq (t := 35) (q := 33) d_Mod_readMarsh_30 (by decide) rfl ?_ ?_
    · refine j_aload_n (i := 0) (x := 70) (q := 36) d_Mod_readMarsh_35 rfl rfl rfl ?_
      refine j_iconst (v := 1) (q := 37) d_Mod_readMarsh_36 (by decide) rfl ?_
      refine j_putI (q := 40) d_Mod_readMarsh_37 fp_Mod_72 fw_70_3 rfl (fun X4 => ?_)
      refine j_sub (L' := [some (.ref 70)]) ⟨rfl, trivial⟩ ?_
      refine jl_Mod_readMarsh_40 hK _ (fun X8 Y9 => ?_) 256 X4 Y
      refine j_aload_n (i := 0) (x := 70) (q := 59) d_Mod_readMarsh_58 rfl rfl rfl ?_
      refine j_get (v := .int (X8 70 3)) (q := 62) d_Mod_readMarsh_59 fk_Mod_72 fv_70_3 rfl ?_
      exact j_iret d_Mod_readMarsh_62
    · refine j_iconst (v := 0) (q := 34) d_Mod_readMarsh_33 (by decide) rfl ?_
      exact j_iret d_Mod_readMarsh_34
def f_Mod_fault (X : HI) (Y : HL) : Option Out :=
    lh (up X 70 0 (0 : Int32)) (fun X1 =>
    bi (f_Mod_readMarsh X1 Y) (fun r4 X2 Y3 =>
    (rI r4 X2 Y3)))
set_option maxRecDepth 4000 in
theorem c_Mod_fault {K : KK} (hK : kOK K) (X : HI) (Y : HL) : CT K y_Mod_fault prog_8_method_16_code 1 (some .int) rm_Mod_fault [.ref 70] X Y (f_Mod_fault X Y) := by
  refine ct_of hK (L := [some (.ref 70)]) (by decide) ⟨rfl, trivial⟩ (Nat.le_of_ble_eq_true rfl) ?_
  unfold f_Mod_fault
  refine j_aload_n (i := 0) (x := 70) (q := 1) d_Mod_fault_0 rfl rfl rfl ?_
  refine j_iconst (v := 0) (q := 2) d_Mod_fault_1 (by decide) rfl ?_
  refine j_putI (q := 5) d_Mod_fault_2 fp_Mod_56 fw_70_0 rfl (fun X1 => ?_)
  refine j_aload_n (i := 0) (x := 70) (q := 6) d_Mod_fault_5 rfl rfl rfl ?_
  refine j_callVi (a := 70) (S := []) (q := 9) [] d_Mod_fault_6 mw_Mod_readMarsh mv_Mod_readMarsh ml_Mod_96 ob_70 rfl rfl (c_Mod_readMarsh hK X1 Y) ⟨⟨rfl, rfl⟩, ⟨Nat.le_of_ble_eq_true rfl, Nat.le_of_ble_eq_true rfl⟩, ⟨Nat.le_refl 0, Nat.le_refl 0⟩⟩ (Nat.le_of_ble_eq_true rfl) rfl (fun r4 X2 Y3 => ?_)
  exact j_iret d_Mod_fault_9
def l_Mod_marsh_35 (kx : Int32 → HI → HL → Option Out) : Nat → Int32 → HI → HL → Option Out
  | 0, _, _, _ => none
  | n + 1, m1, X, Y =>
    (if (15 : Int32) ≤ m1 then
    (kx m1 X Y)
    else
    wr (ixb m1 15) (up X 76 m1.toNatClampNeg (0 : Int32)) (fun X7 =>
    (l_Mod_marsh_35 kx n (m1 + (1 : Int32)) X7 Y)))
def l_Mod_marsh_56 (kx : Int32 → HI → HL → Option Out) : Nat → Int32 → HI → HL → Option Out
  | 0, _, _, _ => none
  | n + 1, m1, X, Y =>
    (if (X 70 4) ≤ m1 then
    (kx m1 X Y)
    else
    gd (ixb ((3 : Int32) * m1) 18) (
    wr (ixb m1 6) (up X 72 m1.toNatClampNeg (X 74 ((3 : Int32) * m1).toNatClampNeg)) (fun X11 =>
    gd (ixb (((3 : Int32) * m1) + (1 : Int32)) 18) (
    wr (ixb m1 15) (up X11 76 m1.toNatClampNeg (X11 74 (((3 : Int32) * m1) + (1 : Int32)).toNatClampNeg)) (fun X12 =>
    gd (ixb (((3 : Int32) * m1) + (2 : Int32)) 18) (
    wr (ixb ((6 : Int32) + m1) 15) (up X12 76 ((6 : Int32) + m1).toNatClampNeg (X12 74 (((3 : Int32) * m1) + (2 : Int32)).toNatClampNeg)) (fun X13 =>
    (l_Mod_marsh_56 kx n (m1 + (1 : Int32)) X13 Y))))))))
def l_Mod_marsh_121 (kx : Int32 → HI → HL → Option Out) : Nat → Int32 → HI → HL → Option Out
  | 0, _, _, _ => none
  | n + 1, m1, X, Y =>
    (if (X 70 6) ≤ m1 then
    (kx m1 X Y)
    else
    gd (ixb m1 5) (
    wr (ixb m1 5) (up X 73 m1.toNatClampNeg (X 75 m1.toNatClampNeg)) (fun X17 =>
    (l_Mod_marsh_121 kx n (m1 + (1 : Int32)) X17 Y))))
def f_Mod_marsh (X : HI) (Y : HL) : Option Out :=
    lh (up X 70 0 (0 : Int32)) (fun X1 =>
    bi (f_Mod_readMarsh X1 Y) (fun r4 X2 Y3 =>
    (if r4 = (-9 : Int32) then
    lh (up X2 70 4 (X2 70 8)) (fun X5 =>
    lh (up X5 70 6 (X5 70 10)) (fun X6 =>
    (l_Mod_marsh_35 (fun w8 X9 Y10 =>
    (l_Mod_marsh_56 (fun w14 X15 Y16 =>
    (l_Mod_marsh_121 (fun w18 X19 Y20 =>
    lh (up X19 70 15 (0 : Int32)) (fun X21 =>
    wr (ixb (0 : Int32) 2) (up X21 80 (0 : Int32).toNatClampNeg (vp_nar .boolean (0 : Int32))) (fun X22 =>
    wr (ixb (1 : Int32) 2) (up X22 80 (1 : Int32).toNatClampNeg (vp_nar .boolean (0 : Int32))) (fun X23 =>
    (rI (((10 : Int32) * (X23 70 4)) + (X23 70 6)) X23 Y20))))) 256 (0 : Int32) X15 Y16)) 256 (0 : Int32) X9 Y10)) 256 (0 : Int32) X6 Y3)))
    else
    (rI (-3 : Int32) X2 Y3))))
set_option maxRecDepth 4000 in
theorem jl_Mod_marsh_35 {K : KK} (hK : kOK K) (kx : Int32 → HI → HL → Option Out) (hkx : ∀ (m1 : Int32) (X : HI) (Y : HL), JO K "BrinePansModel" prog_8_method_17_code 2 (some .int) rm_Mod_marsh 0 0 (MZ K) 54 [some (.ref 70), none] [] X Y (kx m1 X Y)) : ∀ (n : Nat) (m1 : Int32) (X : HI) (Y : HL), JO K "BrinePansModel" prog_8_method_17_code 2 (some .int) rm_Mod_marsh 0 0 (MZ K) 35 [some (.ref 70), some (.int m1)] [] X Y (l_Mod_marsh_35 kx n m1 X Y) := by
  intro n
  induction n with
  | zero =>
    intro m1 X Y
    rw [l_Mod_marsh_35]
    exact j_none
  | succ n ih =>
    intro m1 X Y
    rw [l_Mod_marsh_35]
    refine j_iload_n (i := 1) (x := m1) (q := 36) d_Mod_marsh_35 rfl rfl rfl ?_
    refine j_bipush (v := 15) (q := 38) d_Mod_marsh_36 (by decide +kernel) rfl ?_
    refine j_icmp_ge (t := 54) (q := 41) d_Mod_marsh_38 (by decide) rfl ?_ ?_
    · refine j_sub (L' := [some (.ref 70), none]) ⟨rfl, trivial⟩ ?_
      exact hkx m1 X Y
    · refine j_aload_n (i := 0) (x := 70) (q := 42) d_Mod_marsh_41 rfl rfl rfl ?_
      refine j_get (v := .ref 76) (q := 45) d_Mod_marsh_42 fk_Mod_25 fv_70_12 rfl ?_
      refine j_iload_n (i := 1) (x := m1) (q := 46) d_Mod_marsh_45 rfl rfl rfl ?_
      refine j_iconst (v := 0) (q := 47) d_Mod_marsh_46 (by decide) rfl ?_
      refine j_iast (q := 48) d_Mod_marsh_47 ai_76 rfl (fun X7 => ?_)
      refine j_iinc (i := 1) (x := m1) (d := 1) (L' := [some (.ref 70), some (.int (m1 + (1 : Int32)))]) (q := 51) d_Mod_marsh_48 rfl (by decide) (by decide) rfl rfl rfl ?_
      refine j_goto (q := 35) d_Mod_marsh_51 (by decide) ?_
      refine j_sub (L' := [some (.ref 70), some (.int (m1 + (1 : Int32)))]) ⟨rfl, ⟨rfl, trivial⟩⟩ ?_
      exact ih (m1 + (1 : Int32)) X7 Y
set_option maxRecDepth 4000 in
theorem jl_Mod_marsh_56 {K : KK} (hK : kOK K) (kx : Int32 → HI → HL → Option Out) (hkx : ∀ (m1 : Int32) (X : HI) (Y : HL), JO K "BrinePansModel" prog_8_method_17_code 2 (some .int) rm_Mod_marsh 0 0 (MZ K) 119 [some (.ref 70), none] [] X Y (kx m1 X Y)) : ∀ (n : Nat) (m1 : Int32) (X : HI) (Y : HL), JO K "BrinePansModel" prog_8_method_17_code 2 (some .int) rm_Mod_marsh 0 0 (MZ K) 56 [some (.ref 70), some (.int m1)] [] X Y (l_Mod_marsh_56 kx n m1 X Y) := by
  intro n
  induction n with
  | zero =>
    intro m1 X Y
    rw [l_Mod_marsh_56]
    exact j_none
  | succ n ih =>
    intro m1 X Y
    rw [l_Mod_marsh_56]
    refine j_iload_n (i := 1) (x := m1) (q := 57) d_Mod_marsh_56 rfl rfl rfl ?_
    refine j_aload_n (i := 0) (x := 70) (q := 58) d_Mod_marsh_57 rfl rfl rfl ?_
    refine j_get (v := .int (X 70 4)) (q := 61) d_Mod_marsh_58 fk_Mod_60 fv_70_4 rfl ?_
    refine j_icmp_ge (t := 119) (q := 64) d_Mod_marsh_61 (by decide) rfl ?_ ?_
    · refine j_sub (L' := [some (.ref 70), none]) ⟨rfl, trivial⟩ ?_
      exact hkx m1 X Y
    · refine j_aload_n (i := 0) (x := 70) (q := 65) d_Mod_marsh_64 rfl rfl rfl ?_
      refine j_get (v := .ref 72) (q := 68) d_Mod_marsh_65 fk_Mod_13 fv_70_5 rfl ?_
      refine j_iload_n (i := 1) (x := m1) (q := 69) d_Mod_marsh_68 rfl rfl rfl ?_
      refine j_aload_n (i := 0) (x := 70) (q := 70) d_Mod_marsh_69 rfl rfl rfl ?_
      refine j_get (v := .ref 74) (q := 73) d_Mod_marsh_70 fk_Mod_19 fv_70_9 rfl ?_
      refine j_iconst (v := 3) (q := 74) d_Mod_marsh_73 (by decide) rfl ?_
      refine j_iload_n (i := 1) (x := m1) (q := 75) d_Mod_marsh_74 rfl rfl rfl ?_
      refine j_imul (q := 76) d_Mod_marsh_75 rfl ?_
      refine j_iald (q := 77) d_Mod_marsh_76 ai_74 rfl ?_
      refine j_iast (q := 78) d_Mod_marsh_77 ai_72 rfl (fun X11 => ?_)
      refine j_aload_n (i := 0) (x := 70) (q := 79) d_Mod_marsh_78 rfl rfl rfl ?_
      refine j_get (v := .ref 76) (q := 82) d_Mod_marsh_79 fk_Mod_25 fv_70_12 rfl ?_
      refine j_iload_n (i := 1) (x := m1) (q := 83) d_Mod_marsh_82 rfl rfl rfl ?_
      refine j_aload_n (i := 0) (x := 70) (q := 84) d_Mod_marsh_83 rfl rfl rfl ?_
      refine j_get (v := .ref 74) (q := 87) d_Mod_marsh_84 fk_Mod_19 fv_70_9 rfl ?_
      refine j_iconst (v := 3) (q := 88) d_Mod_marsh_87 (by decide) rfl ?_
      refine j_iload_n (i := 1) (x := m1) (q := 89) d_Mod_marsh_88 rfl rfl rfl ?_
      refine j_imul (q := 90) d_Mod_marsh_89 rfl ?_
      refine j_iconst (v := 1) (q := 91) d_Mod_marsh_90 (by decide) rfl ?_
      refine j_iadd (q := 92) d_Mod_marsh_91 rfl ?_
      refine j_iald (q := 93) d_Mod_marsh_92 ai_74 rfl ?_
      refine j_iast (q := 94) d_Mod_marsh_93 ai_76 rfl (fun X12 => ?_)
      refine j_aload_n (i := 0) (x := 70) (q := 95) d_Mod_marsh_94 rfl rfl rfl ?_
      refine j_get (v := .ref 76) (q := 98) d_Mod_marsh_95 fk_Mod_25 fv_70_12 rfl ?_
      refine j_bipush (v := 6) (q := 100) d_Mod_marsh_98 (by decide +kernel) rfl ?_
      refine j_iload_n (i := 1) (x := m1) (q := 101) d_Mod_marsh_100 rfl rfl rfl ?_
      refine j_iadd (q := 102) d_Mod_marsh_101 rfl ?_
      refine j_aload_n (i := 0) (x := 70) (q := 103) d_Mod_marsh_102 rfl rfl rfl ?_
      refine j_get (v := .ref 74) (q := 106) d_Mod_marsh_103 fk_Mod_19 fv_70_9 rfl ?_
      refine j_iconst (v := 3) (q := 107) d_Mod_marsh_106 (by decide) rfl ?_
      refine j_iload_n (i := 1) (x := m1) (q := 108) d_Mod_marsh_107 rfl rfl rfl ?_
      refine j_imul (q := 109) d_Mod_marsh_108 rfl ?_
      refine j_iconst (v := 2) (q := 110) d_Mod_marsh_109 (by decide) rfl ?_
      refine j_iadd (q := 111) d_Mod_marsh_110 rfl ?_
      refine j_iald (q := 112) d_Mod_marsh_111 ai_74 rfl ?_
      refine j_iast (q := 113) d_Mod_marsh_112 ai_76 rfl (fun X13 => ?_)
      refine j_iinc (i := 1) (x := m1) (d := 1) (L' := [some (.ref 70), some (.int (m1 + (1 : Int32)))]) (q := 116) d_Mod_marsh_113 rfl (by decide) (by decide) rfl rfl rfl ?_
      refine j_goto (q := 56) d_Mod_marsh_116 (by decide) ?_
      refine j_sub (L' := [some (.ref 70), some (.int (m1 + (1 : Int32)))]) ⟨rfl, ⟨rfl, trivial⟩⟩ ?_
      exact ih (m1 + (1 : Int32)) X13 Y
set_option maxRecDepth 4000 in
theorem jl_Mod_marsh_121 {K : KK} (hK : kOK K) (kx : Int32 → HI → HL → Option Out) (hkx : ∀ (m1 : Int32) (X : HI) (Y : HL), JO K "BrinePansModel" prog_8_method_17_code 2 (some .int) rm_Mod_marsh 0 0 (MZ K) 147 [some (.ref 70), none] [] X Y (kx m1 X Y)) : ∀ (n : Nat) (m1 : Int32) (X : HI) (Y : HL), JO K "BrinePansModel" prog_8_method_17_code 2 (some .int) rm_Mod_marsh 0 0 (MZ K) 121 [some (.ref 70), some (.int m1)] [] X Y (l_Mod_marsh_121 kx n m1 X Y) := by
  intro n
  induction n with
  | zero =>
    intro m1 X Y
    rw [l_Mod_marsh_121]
    exact j_none
  | succ n ih =>
    intro m1 X Y
    rw [l_Mod_marsh_121]
    refine j_iload_n (i := 1) (x := m1) (q := 122) d_Mod_marsh_121 rfl rfl rfl ?_
    refine j_aload_n (i := 0) (x := 70) (q := 123) d_Mod_marsh_122 rfl rfl rfl ?_
    refine j_get (v := .int (X 70 6)) (q := 126) d_Mod_marsh_123 fk_Mod_100 fv_70_6 rfl ?_
    refine j_icmp_ge (t := 147) (q := 129) d_Mod_marsh_126 (by decide) rfl ?_ ?_
    · refine j_sub (L' := [some (.ref 70), none]) ⟨rfl, trivial⟩ ?_
      exact hkx m1 X Y
    · refine j_aload_n (i := 0) (x := 70) (q := 130) d_Mod_marsh_129 rfl rfl rfl ?_
      refine j_get (v := .ref 73) (q := 133) d_Mod_marsh_130 fk_Mod_16 fv_70_7 rfl ?_
      refine j_iload_n (i := 1) (x := m1) (q := 134) d_Mod_marsh_133 rfl rfl rfl ?_
      refine j_aload_n (i := 0) (x := 70) (q := 135) d_Mod_marsh_134 rfl rfl rfl ?_
      refine j_get (v := .ref 75) (q := 138) d_Mod_marsh_135 fk_Mod_22 fv_70_11 rfl ?_
      refine j_iload_n (i := 1) (x := m1) (q := 139) d_Mod_marsh_138 rfl rfl rfl ?_
      refine j_iald (q := 140) d_Mod_marsh_139 ai_75 rfl ?_
      refine j_iast (q := 141) d_Mod_marsh_140 ai_73 rfl (fun X17 => ?_)
      refine j_iinc (i := 1) (x := m1) (d := 1) (L' := [some (.ref 70), some (.int (m1 + (1 : Int32)))]) (q := 144) d_Mod_marsh_141 rfl (by decide) (by decide) rfl rfl rfl ?_
      refine j_goto (q := 121) d_Mod_marsh_144 (by decide) ?_
      refine j_sub (L' := [some (.ref 70), some (.int (m1 + (1 : Int32)))]) ⟨rfl, ⟨rfl, trivial⟩⟩ ?_
      exact ih (m1 + (1 : Int32)) X17 Y
set_option maxRecDepth 4000 in
theorem c_Mod_marsh {K : KK} (hK : kOK K) (X : HI) (Y : HL) : CT K y_Mod_marsh prog_8_method_17_code 2 (some .int) rm_Mod_marsh [.ref 70] X Y (f_Mod_marsh X Y) := by
  refine ct_of hK (L := [some (.ref 70), none]) (by decide) ⟨rfl, trivial⟩ (Nat.le_of_ble_eq_true rfl) ?_
  unfold f_Mod_marsh
  refine j_aload_n (i := 0) (x := 70) (q := 1) d_Mod_marsh_0 rfl rfl rfl ?_
  refine j_iconst (v := 0) (q := 2) d_Mod_marsh_1 (by decide) rfl ?_
  refine j_putI (q := 5) d_Mod_marsh_2 fp_Mod_56 fw_70_0 rfl (fun X1 => ?_)
  refine j_aload_n (i := 0) (x := 70) (q := 6) d_Mod_marsh_5 rfl rfl rfl ?_
  refine j_callVi (a := 70) (S := []) (q := 9) [] d_Mod_marsh_6 mw_Mod_readMarsh mv_Mod_readMarsh ml_Mod_96 ob_70 rfl rfl (c_Mod_readMarsh hK X1 Y) ⟨⟨rfl, rfl⟩, ⟨Nat.le_of_ble_eq_true rfl, Nat.le_of_ble_eq_true rfl⟩, ⟨Nat.le_refl 0, Nat.le_refl 0⟩⟩ (Nat.le_of_ble_eq_true rfl) rfl (fun r4 X2 Y3 => ?_)
  refine j_bipush (v := -9) (q := 11) d_Mod_marsh_9 (by decide +kernel) rfl ?_
  refine j_icmp_eq (t := 17) (q := 14) d_Mod_marsh_11 (by decide) rfl ?_ ?_
  · refine j_aload_n (i := 0) (x := 70) (q := 18) d_Mod_marsh_17 rfl rfl rfl ?_
    refine j_aload_n (i := 0) (x := 70) (q := 19) d_Mod_marsh_18 rfl rfl rfl ?_
    refine j_get (v := .int (X2 70 8)) (q := 22) d_Mod_marsh_19 fk_Mod_79 fv_70_8 rfl ?_
    refine j_putI (q := 25) d_Mod_marsh_22 fp_Mod_60 fw_70_4 rfl (fun X5 => ?_)
    refine j_aload_n (i := 0) (x := 70) (q := 26) d_Mod_marsh_25 rfl rfl rfl ?_
    refine j_aload_n (i := 0) (x := 70) (q := 27) d_Mod_marsh_26 rfl rfl rfl ?_
    refine j_get (v := .int (X5 70 10)) (q := 30) d_Mod_marsh_27 fk_Mod_82 fv_70_10 rfl ?_
    refine j_putI (q := 33) d_Mod_marsh_30 fp_Mod_100 fw_70_6 rfl (fun X6 => ?_)
    refine j_iconst (v := 0) (q := 34) d_Mod_marsh_33 (by decide) rfl ?_
    refine j_istore_n (i := 1) (L' := [some (.ref 70), some (.int (0 : Int32))]) (q := 35) d_Mod_marsh_34 rfl (by decide) rfl rfl rfl ?_
    refine j_sub (L' := [some (.ref 70), some (.int (0 : Int32))]) ⟨rfl, ⟨rfl, trivial⟩⟩ ?_
    refine jl_Mod_marsh_35 hK _ (fun w8 X9 Y10 => ?_) 256 (0 : Int32) X6 Y3
    refine j_iconst (v := 0) (q := 55) d_Mod_marsh_54 (by decide) rfl ?_
    refine j_istore_n (i := 1) (L' := [some (.ref 70), some (.int (0 : Int32))]) (q := 56) d_Mod_marsh_55 rfl (by decide) rfl rfl rfl ?_
    refine j_sub (L' := [some (.ref 70), some (.int (0 : Int32))]) ⟨rfl, ⟨rfl, trivial⟩⟩ ?_
    refine jl_Mod_marsh_56 hK _ (fun w14 X15 Y16 => ?_) 256 (0 : Int32) X9 Y10
    refine j_iconst (v := 0) (q := 120) d_Mod_marsh_119 (by decide) rfl ?_
    refine j_istore_n (i := 1) (L' := [some (.ref 70), some (.int (0 : Int32))]) (q := 121) d_Mod_marsh_120 rfl (by decide) rfl rfl rfl ?_
    refine j_sub (L' := [some (.ref 70), some (.int (0 : Int32))]) ⟨rfl, ⟨rfl, trivial⟩⟩ ?_
    refine jl_Mod_marsh_121 hK _ (fun w18 X19 Y20 => ?_) 256 (0 : Int32) X15 Y16
    refine j_aload_n (i := 0) (x := 70) (q := 148) d_Mod_marsh_147 rfl rfl rfl ?_
    refine j_iconst (v := 0) (q := 149) d_Mod_marsh_148 (by decide) rfl ?_
    refine j_putI (q := 152) d_Mod_marsh_149 fp_Mod_103 fw_70_15 rfl (fun X21 => ?_)
    refine j_aload_n (i := 0) (x := 70) (q := 153) d_Mod_marsh_152 rfl rfl rfl ?_
    refine j_get (v := .ref 80) (q := 156) d_Mod_marsh_153 fk_Mod_37 fv_70_17 rfl ?_
    refine j_iconst (v := 0) (q := 157) d_Mod_marsh_156 (by decide) rfl ?_
    refine j_iconst (v := 0) (q := 158) d_Mod_marsh_157 (by decide) rfl ?_
    refine j_zast (q := 159) d_Mod_marsh_158 az_80 rfl (fun X22 => ?_)
    refine j_aload_n (i := 0) (x := 70) (q := 160) d_Mod_marsh_159 rfl rfl rfl ?_
    refine j_get (v := .ref 80) (q := 163) d_Mod_marsh_160 fk_Mod_37 fv_70_17 rfl ?_
    refine j_iconst (v := 1) (q := 164) d_Mod_marsh_163 (by decide) rfl ?_
    refine j_iconst (v := 0) (q := 165) d_Mod_marsh_164 (by decide) rfl ?_
    refine j_zast (q := 166) d_Mod_marsh_165 az_80 rfl (fun X23 => ?_)
    refine j_bipush (v := 10) (q := 168) d_Mod_marsh_166 (by decide +kernel) rfl ?_
    refine j_aload_n (i := 0) (x := 70) (q := 169) d_Mod_marsh_168 rfl rfl rfl ?_
    refine j_get (v := .int (X23 70 4)) (q := 172) d_Mod_marsh_169 fk_Mod_60 fv_70_4 rfl ?_
    refine j_imul (q := 173) d_Mod_marsh_172 rfl ?_
    refine j_aload_n (i := 0) (x := 70) (q := 174) d_Mod_marsh_173 rfl rfl rfl ?_
    refine j_get (v := .int (X23 70 6)) (q := 177) d_Mod_marsh_174 fk_Mod_100 fv_70_6 rfl ?_
    refine j_iadd (q := 178) d_Mod_marsh_177 rfl ?_
    exact j_iret d_Mod_marsh_178
  · refine j_bipush (v := -3) (q := 16) d_Mod_marsh_14 (by decide +kernel) rfl ?_
    exact j_iret d_Mod_marsh_16
def b_Mod_room_17 (a : Nat) (x2 : Int32) (s0 : Int32) (X : HI) (Y : HL) : Option Out :=
    gd (ixb x2 15) (
    (rI (s0 - (X a x2.toNatClampNeg)) X Y))
def f_Mod_room (a : Nat) (x2 : Int32) (X : HI) (Y : HL) : Option Out :=
    gd (ixb x2 6) (
    (if (X 72 x2.toNatClampNeg) = (1 : Int32) then
    (b_Mod_room_17 a x2 (9 : Int32) X Y)
    else
    (b_Mod_room_17 a x2 (6 : Int32) X Y)))
set_option maxRecDepth 4000 in
theorem jb_Mod_room_17 {K : KK} (hK : kOK K) (a : Nat) (ha : AI a 15) (x2 : Int32) (s0 : Int32) (X : HI) (Y : HL) : JO K "BrinePansModel" prog_8_method_18_code 3 (some .int) rm_Mod_room 0 0 (MZ K) 17 [none, some (.ref a), some (.int x2)] [.int s0] X Y (b_Mod_room_17 a x2 s0 X Y) := by
  unfold b_Mod_room_17
  refine j_aload_n (i := 1) (x := a) (q := 18) d_Mod_room_17 rfl rfl rfl ?_
  refine j_iload_n (i := 2) (x := x2) (q := 19) d_Mod_room_18 rfl rfl rfl ?_
  refine j_iald (q := 20) d_Mod_room_19 ha rfl ?_
  refine j_isub (q := 21) d_Mod_room_20 rfl ?_
  exact j_iret d_Mod_room_21
set_option maxRecDepth 4000 in
theorem c_Mod_room {K : KK} (hK : kOK K) (a : Nat) (ha : AI a 15) (x2 : Int32) (X : HI) (Y : HL) : CT K y_Mod_room prog_8_method_18_code 3 (some .int) rm_Mod_room [.ref 70, .ref a, .int x2] X Y (f_Mod_room a x2 X Y) := by
  refine ct_of hK (L := [some (.ref 70), some (.ref a), some (.int x2)]) (by decide) ⟨rfl, ⟨rfl, ⟨rfl, trivial⟩⟩⟩ (Nat.le_of_ble_eq_true rfl) ?_
  unfold f_Mod_room
  refine j_aload_n (i := 0) (x := 70) (q := 1) d_Mod_room_0 rfl rfl rfl ?_
  refine j_get (v := .ref 72) (q := 4) d_Mod_room_1 fk_Mod_13 fv_70_5 rfl ?_
  refine j_iload_n (i := 2) (x := x2) (q := 5) d_Mod_room_4 rfl rfl rfl ?_
  refine j_iald (q := 6) d_Mod_room_5 ai_72 rfl ?_
  refine j_iconst (v := 1) (q := 7) d_Mod_room_6 (by decide) rfl ?_
  refine j_icmp_ne (t := 15) (q := 10) d_Mod_room_7 (by decide) rfl ?_ ?_
  · refine j_bipush (v := 6) (q := 17) d_Mod_room_15 (by decide +kernel) rfl ?_
    refine j_sub (L' := [none, some (.ref a), some (.int x2)]) ⟨rfl, ⟨rfl, trivial⟩⟩ ?_
    exact jb_Mod_room_17 hK a ha x2 (6 : Int32) X Y
  · refine j_bipush (v := 9) (q := 12) d_Mod_room_10 (by decide +kernel) rfl ?_
    refine j_goto (q := 17) d_Mod_room_12 (by decide) ?_
    refine j_sub (L' := [none, some (.ref a), some (.int x2)]) ⟨rfl, ⟨rfl, trivial⟩⟩ ?_
    exact jb_Mod_room_17 hK a ha x2 (9 : Int32) X Y
def f_Mod_brine (a : Nat) (x1 : Int32) (X : HI) (Y : HL) : Option Out :=
    gd (ixb ((6 : Int32) + x1) 15) (
    gd (ixb x1 15) (
    (if ((8 : Int32) * (X a x1.toNatClampNeg)) ≤ (X a ((6 : Int32) + x1).toNatClampNeg) then
    gd (ixb x1 15) (
    (rI ((8 : Int32) * (X a x1.toNatClampNeg)) X Y))
    else
    gd (ixb ((6 : Int32) + x1) 15) (
    (rI (X a ((6 : Int32) + x1).toNatClampNeg) X Y)))))
set_option maxRecDepth 4000 in
theorem c_Mod_brine {K : KK} (hK : kOK K) (a : Nat) (ha : AI a 15) (x1 : Int32) (X : HI) (Y : HL) : CT K y_Mod_brine prog_8_method_19_code 2 (some .int) rm_Mod_brine [.ref a, .int x1] X Y (f_Mod_brine a x1 X Y) := by
  refine ct_of hK (L := [some (.ref a), some (.int x1)]) (by decide) ⟨rfl, ⟨rfl, trivial⟩⟩ (Nat.le_of_ble_eq_true rfl) ?_
  unfold f_Mod_brine
  refine j_aload_n (i := 0) (x := a) (q := 1) d_Mod_brine_0 rfl rfl rfl ?_
  refine j_bipush (v := 6) (q := 3) d_Mod_brine_1 (by decide +kernel) rfl ?_
  refine j_iload_n (i := 1) (x := x1) (q := 4) d_Mod_brine_3 rfl rfl rfl ?_
  refine j_iadd (q := 5) d_Mod_brine_4 rfl ?_
  refine j_iald (q := 6) d_Mod_brine_5 ha rfl ?_
  refine j_bipush (v := 8) (q := 8) d_Mod_brine_6 (by decide +kernel) rfl ?_
  refine j_aload_n (i := 0) (x := a) (q := 9) d_Mod_brine_8 rfl rfl rfl ?_
  refine j_iload_n (i := 1) (x := x1) (q := 10) d_Mod_brine_9 rfl rfl rfl ?_
  refine j_iald (q := 11) d_Mod_brine_10 ha rfl ?_
  refine j_imul (q := 12) d_Mod_brine_11 rfl ?_
  refine j_icmp_ge (t := 24) (q := 15) d_Mod_brine_12 (by decide) rfl ?_ ?_
  · refine j_bipush (v := 8) (q := 26) d_Mod_brine_24 (by decide +kernel) rfl ?_
    refine j_aload_n (i := 0) (x := a) (q := 27) d_Mod_brine_26 rfl rfl rfl ?_
    refine j_iload_n (i := 1) (x := x1) (q := 28) d_Mod_brine_27 rfl rfl rfl ?_
    refine j_iald (q := 29) d_Mod_brine_28 ha rfl ?_
    refine j_imul (q := 30) d_Mod_brine_29 rfl ?_
    exact j_iret d_Mod_brine_30
  · refine j_aload_n (i := 0) (x := a) (q := 16) d_Mod_brine_15 rfl rfl rfl ?_
    refine j_bipush (v := 6) (q := 18) d_Mod_brine_16 (by decide +kernel) rfl ?_
    refine j_iload_n (i := 1) (x := x1) (q := 19) d_Mod_brine_18 rfl rfl rfl ?_
    refine j_iadd (q := 20) d_Mod_brine_19 rfl ?_
    refine j_iald (q := 21) d_Mod_brine_20 ha rfl ?_
    refine j_goto (q := 30) d_Mod_brine_21 (by decide) ?_
    exact j_iret d_Mod_brine_30
def f_Mod_crustOf (a : Nat) (x1 : Int32) (X : HI) (Y : HL) : Option Out :=
    gd (ixb ((6 : Int32) + x1) 15) (
    bi (f_Mod_brine a x1 X Y) (fun r3 X1 Y2 =>
    (rI ((X a ((6 : Int32) + x1).toNatClampNeg) - r3) X1 Y2)))
set_option maxRecDepth 4000 in
theorem c_Mod_crustOf {K : KK} (hK : kOK K) (a : Nat) (ha : AI a 15) (x1 : Int32) (X : HI) (Y : HL) : CT K y_Mod_crustOf prog_8_method_20_code 2 (some .int) rm_Mod_crustOf [.ref a, .int x1] X Y (f_Mod_crustOf a x1 X Y) := by
  refine ct_of hK (L := [some (.ref a), some (.int x1)]) (by decide) ⟨rfl, ⟨rfl, trivial⟩⟩ (Nat.le_of_ble_eq_true rfl) ?_
  unfold f_Mod_crustOf
  refine j_aload_n (i := 0) (x := a) (q := 1) d_Mod_crustOf_0 rfl rfl rfl ?_
  refine j_bipush (v := 6) (q := 3) d_Mod_crustOf_1 (by decide +kernel) rfl ?_
  refine j_iload_n (i := 1) (x := x1) (q := 4) d_Mod_crustOf_3 rfl rfl rfl ?_
  refine j_iadd (q := 5) d_Mod_crustOf_4 rfl ?_
  refine j_iald (q := 6) d_Mod_crustOf_5 ha rfl ?_
  refine j_aload_n (i := 0) (x := a) (q := 7) d_Mod_crustOf_6 rfl rfl rfl ?_
  refine j_iload_n (i := 1) (x := x1) (q := 8) d_Mod_crustOf_7 rfl rfl rfl ?_
  refine j_callSi (S := [.int (X a ((6 : Int32) + x1).toNatClampNeg)]) (q := 11) [.ref a, .int x1] d_Mod_crustOf_8 mw_Mod_brine ms_Mod_brine ml_Mod_106 rfl rfl (c_Mod_brine hK a ha x1 X Y) ⟨⟨rfl, rfl⟩, ⟨Nat.le_of_ble_eq_true rfl, Nat.le_of_ble_eq_true rfl⟩, ⟨Nat.le_refl 0, Nat.le_refl 0⟩⟩ (Nat.le_of_ble_eq_true rfl) rfl (fun r3 X1 Y2 => ?_)
  refine j_isub (q := 12) d_Mod_crustOf_11 rfl ?_
  exact j_iret d_Mod_crustOf_12
def l_Mod_crustOfAll_4 (a : Nat) (kx : Int32 → Int32 → HI → HL → Option Out) : Nat → Int32 → Int32 → HI → HL → Option Out
  | 0, _, _, _, _ => none
  | n + 1, m2, m3, X, Y =>
    (if (X 70 4) ≤ m3 then
    (kx m2 m3 X Y)
    else
    bi (f_Mod_crustOf a m3 X Y) (fun r3 X1 Y2 =>
    lt (m2 + r3) (fun v4 =>
    (l_Mod_crustOfAll_4 a kx n v4 (m3 + (1 : Int32)) X1 Y2))))
def f_Mod_crustOfAll (a : Nat) (X : HI) (Y : HL) : Option Out :=
    (l_Mod_crustOfAll_4 a (fun w5 w6 X7 Y8 =>
    (rI w5 X7 Y8)) 256 (0 : Int32) (0 : Int32) X Y)
set_option maxRecDepth 4000 in
theorem jl_Mod_crustOfAll_4 {K : KK} (hK : kOK K) (a : Nat) (ha : AI a 15) (kx : Int32 → Int32 → HI → HL → Option Out) (hkx : ∀ (m2 : Int32) (m3 : Int32) (X : HI) (Y : HL), JO K "BrinePansModel" prog_8_method_21_code 4 (some .int) rm_Mod_crustOfAll 0 0 (MZ K) 26 [none, none, some (.int m2), none] [] X Y (kx m2 m3 X Y)) : ∀ (n : Nat) (m2 : Int32) (m3 : Int32) (X : HI) (Y : HL), JO K "BrinePansModel" prog_8_method_21_code 4 (some .int) rm_Mod_crustOfAll 0 0 (MZ K) 4 [some (.ref 70), some (.ref a), some (.int m2), some (.int m3)] [] X Y (l_Mod_crustOfAll_4 a kx n m2 m3 X Y) := by
  intro n
  induction n with
  | zero =>
    intro m2 m3 X Y
    rw [l_Mod_crustOfAll_4]
    exact j_none
  | succ n ih =>
    intro m2 m3 X Y
    rw [l_Mod_crustOfAll_4]
    refine j_iload_n (i := 3) (x := m3) (q := 5) d_Mod_crustOfAll_4 rfl rfl rfl ?_
    refine j_aload_n (i := 0) (x := 70) (q := 6) d_Mod_crustOfAll_5 rfl rfl rfl ?_
    refine j_get (v := .int (X 70 4)) (q := 9) d_Mod_crustOfAll_6 fk_Mod_60 fv_70_4 rfl ?_
    refine j_icmp_ge (t := 26) (q := 12) d_Mod_crustOfAll_9 (by decide) rfl ?_ ?_
    · refine j_sub (L' := [none, none, some (.int m2), none]) ⟨rfl, trivial⟩ ?_
      exact hkx m2 m3 X Y
    · refine j_iload_n (i := 2) (x := m2) (q := 13) d_Mod_crustOfAll_12 rfl rfl rfl ?_
      refine j_aload_n (i := 1) (x := a) (q := 14) d_Mod_crustOfAll_13 rfl rfl rfl ?_
      refine j_iload_n (i := 3) (x := m3) (q := 15) d_Mod_crustOfAll_14 rfl rfl rfl ?_
      refine j_callSi (S := [.int m2]) (q := 18) [.ref a, .int m3] d_Mod_crustOfAll_15 mw_Mod_crustOf ms_Mod_crustOf ml_Mod_110 rfl rfl (c_Mod_crustOf hK a ha m3 X Y) ⟨⟨rfl, rfl⟩, ⟨Nat.le_of_ble_eq_true rfl, Nat.le_of_ble_eq_true rfl⟩, ⟨Nat.le_refl 0, Nat.le_refl 0⟩⟩ (Nat.le_of_ble_eq_true rfl) rfl (fun r3 X1 Y2 => ?_)
      refine j_iadd (q := 19) d_Mod_crustOfAll_18 rfl ?_
      refine j_lt (fun v4 => ?_)
      refine j_istore_n (i := 2) (L' := [some (.ref 70), some (.ref a), some (.int v4), some (.int m3)]) (q := 20) d_Mod_crustOfAll_19 rfl (by decide) rfl rfl rfl ?_
      refine j_iinc (i := 3) (x := m3) (d := 1) (L' := [some (.ref 70), some (.ref a), some (.int v4), some (.int (m3 + (1 : Int32)))]) (q := 23) d_Mod_crustOfAll_20 rfl (by decide) (by decide) rfl rfl rfl ?_
      refine j_goto (q := 4) d_Mod_crustOfAll_23 (by decide) ?_
      refine j_sub (L' := [some (.ref 70), some (.ref a), some (.int v4), some (.int (m3 + (1 : Int32)))]) ⟨rfl, ⟨rfl, ⟨rfl, ⟨rfl, trivial⟩⟩⟩⟩ ?_
      exact ih v4 (m3 + (1 : Int32)) X1 Y2
set_option maxRecDepth 4000 in
theorem c_Mod_crustOfAll {K : KK} (hK : kOK K) (a : Nat) (ha : AI a 15) (X : HI) (Y : HL) : CT K y_Mod_crustOfAll prog_8_method_21_code 4 (some .int) rm_Mod_crustOfAll [.ref 70, .ref a] X Y (f_Mod_crustOfAll a X Y) := by
  refine ct_of hK (L := [some (.ref 70), some (.ref a), none, none]) (by decide) ⟨rfl, ⟨rfl, trivial⟩⟩ (Nat.le_of_ble_eq_true rfl) ?_
  unfold f_Mod_crustOfAll
  refine j_iconst (v := 0) (q := 1) d_Mod_crustOfAll_0 (by decide) rfl ?_
  refine j_istore_n (i := 2) (L' := [some (.ref 70), some (.ref a), some (.int (0 : Int32)), none]) (q := 2) d_Mod_crustOfAll_1 rfl (by decide) rfl rfl rfl ?_
  refine j_iconst (v := 0) (q := 3) d_Mod_crustOfAll_2 (by decide) rfl ?_
  refine j_istore_n (i := 3) (L' := [some (.ref 70), some (.ref a), some (.int (0 : Int32)), some (.int (0 : Int32))]) (q := 4) d_Mod_crustOfAll_3 rfl (by decide) rfl rfl rfl ?_
  refine j_sub (L' := [some (.ref 70), some (.ref a), some (.int (0 : Int32)), some (.int (0 : Int32))]) ⟨rfl, ⟨rfl, ⟨rfl, ⟨rfl, trivial⟩⟩⟩⟩ ?_
  refine jl_Mod_crustOfAll_4 hK a ha _ (fun w5 w6 X7 Y8 => ?_) 256 (0 : Int32) (0 : Int32) X Y
  refine j_iload_n (i := 2) (x := w5) (q := 27) d_Mod_crustOfAll_26 rfl rfl rfl ?_
  exact j_iret d_Mod_crustOfAll_27
def f_Mod_flow (a : Nat) (x1 : Int32) (x2 : Int32) (X : HI) (Y : HL) : Option Out :=
    bi (f_Mod_brine a x1 X Y) (fun r3 X1 Y2 =>
    gd (ixb x1 15) (
    gd (nzb (X1 a x1.toNatClampNeg)) (
    lt ((r3 * x2) / (X1 a x1.toNatClampNeg)) (fun v4 =>
    gd (ixb x1 15) (
    wr (ixb x1 15) (up X1 a x1.toNatClampNeg ((X1 a x1.toNatClampNeg) - x2)) (fun X5 =>
    gd (ixb ((6 : Int32) + x1) 15) (
    wr (ixb ((6 : Int32) + x1) 15) (up X5 a ((6 : Int32) + x1).toNatClampNeg ((X5 a ((6 : Int32) + x1).toNatClampNeg) - v4)) (fun X6 =>
    (rI v4 X6 Y2)))))))))
set_option maxRecDepth 4000 in
theorem c_Mod_flow {K : KK} (hK : kOK K) (a : Nat) (ha : AI a 15) (x1 : Int32) (x2 : Int32) (X : HI) (Y : HL) : CT K y_Mod_flow prog_8_method_22_code 4 (some .int) rm_Mod_flow [.ref a, .int x1, .int x2] X Y (f_Mod_flow a x1 x2 X Y) := by
  refine ct_of hK (L := [some (.ref a), some (.int x1), some (.int x2), none]) (by decide) ⟨rfl, ⟨rfl, ⟨rfl, trivial⟩⟩⟩ (Nat.le_of_ble_eq_true rfl) ?_
  unfold f_Mod_flow
  refine j_aload_n (i := 0) (x := a) (q := 1) d_Mod_flow_0 rfl rfl rfl ?_
  refine j_iload_n (i := 1) (x := x1) (q := 2) d_Mod_flow_1 rfl rfl rfl ?_
  refine j_callSi (S := []) (q := 5) [.ref a, .int x1] d_Mod_flow_2 mw_Mod_brine ms_Mod_brine ml_Mod_106 rfl rfl (c_Mod_brine hK a ha x1 X Y) ⟨⟨rfl, rfl⟩, ⟨Nat.le_of_ble_eq_true rfl, Nat.le_of_ble_eq_true rfl⟩, ⟨Nat.le_refl 0, Nat.le_refl 0⟩⟩ (Nat.le_of_ble_eq_true rfl) rfl (fun r3 X1 Y2 => ?_)
  refine j_iload_n (i := 2) (x := x2) (q := 6) d_Mod_flow_5 rfl rfl rfl ?_
  refine j_imul (q := 7) d_Mod_flow_6 rfl ?_
  refine j_aload_n (i := 0) (x := a) (q := 8) d_Mod_flow_7 rfl rfl rfl ?_
  refine j_iload_n (i := 1) (x := x1) (q := 9) d_Mod_flow_8 rfl rfl rfl ?_
  refine j_iald (q := 10) d_Mod_flow_9 ha rfl ?_
  refine j_idiv (q := 11) d_Mod_flow_10 rfl ?_
  refine j_lt (fun v4 => ?_)
  refine j_istore_n (i := 3) (L' := [some (.ref a), some (.int x1), some (.int x2), some (.int v4)]) (q := 12) d_Mod_flow_11 rfl (by decide) rfl rfl rfl ?_
  refine j_aload_n (i := 0) (x := a) (q := 13) d_Mod_flow_12 rfl rfl rfl ?_
  refine j_iload_n (i := 1) (x := x1) (q := 14) d_Mod_flow_13 rfl rfl rfl ?_
  refine j_dup2 (q := 15) d_Mod_flow_14 rfl rfl rfl ?_
  refine j_iald (q := 16) d_Mod_flow_15 ha rfl ?_
  refine j_iload_n (i := 2) (x := x2) (q := 17) d_Mod_flow_16 rfl rfl rfl ?_
  refine j_isub (q := 18) d_Mod_flow_17 rfl ?_
  refine j_iast (q := 19) d_Mod_flow_18 ha rfl (fun X5 => ?_)
  refine j_aload_n (i := 0) (x := a) (q := 20) d_Mod_flow_19 rfl rfl rfl ?_
  refine j_bipush (v := 6) (q := 22) d_Mod_flow_20 (by decide +kernel) rfl ?_
  refine j_iload_n (i := 1) (x := x1) (q := 23) d_Mod_flow_22 rfl rfl rfl ?_
  refine j_iadd (q := 24) d_Mod_flow_23 rfl ?_
  refine j_dup2 (q := 25) d_Mod_flow_24 rfl rfl rfl ?_
  refine j_iald (q := 26) d_Mod_flow_25 ha rfl ?_
  refine j_iload_n (i := 3) (x := v4) (q := 27) d_Mod_flow_26 rfl rfl rfl ?_
  refine j_isub (q := 28) d_Mod_flow_27 rfl ?_
  refine j_iast (q := 29) d_Mod_flow_28 ha rfl (fun X6 => ?_)
  refine j_iload_n (i := 3) (x := v4) (q := 30) d_Mod_flow_29 rfl rfl rfl ?_
  exact j_iret d_Mod_flow_30
def f_Mod_salted (a : Nat) (x1 : Int32) (x2 : Int32) (X : HI) (Y : HL) : Option Out :=
    gd (ixb ((6 : Int32) + x1) 15) (
    lt ((X a ((6 : Int32) + x1).toNatClampNeg) + x2) (fun v1 =>
    (if v1 ≤ (999 : Int32) then
    wr (ixb ((6 : Int32) + x1) 15) (up X a ((6 : Int32) + x1).toNatClampNeg v1) (fun X2 =>
    (rV X2 Y))
    else
    wr (ixb ((6 : Int32) + x1) 15) (up X a ((6 : Int32) + x1).toNatClampNeg (999 : Int32)) (fun X3 =>
    (rV X3 Y)))))
set_option maxRecDepth 4000 in
theorem c_Mod_salted {K : KK} (hK : kOK K) (a : Nat) (ha : AI a 15) (x1 : Int32) (x2 : Int32) (X : HI) (Y : HL) : CT K y_Mod_salted prog_8_method_23_code 4 none rm_Mod_salted [.ref a, .int x1, .int x2] X Y (f_Mod_salted a x1 x2 X Y) := by
  refine ct_of hK (L := [some (.ref a), some (.int x1), some (.int x2), none]) (by decide) ⟨rfl, ⟨rfl, ⟨rfl, trivial⟩⟩⟩ (Nat.le_of_ble_eq_true rfl) ?_
  unfold f_Mod_salted
  refine j_aload_n (i := 0) (x := a) (q := 1) d_Mod_salted_0 rfl rfl rfl ?_
  refine j_bipush (v := 6) (q := 3) d_Mod_salted_1 (by decide +kernel) rfl ?_
  refine j_iload_n (i := 1) (x := x1) (q := 4) d_Mod_salted_3 rfl rfl rfl ?_
  refine j_iadd (q := 5) d_Mod_salted_4 rfl ?_
  refine j_iald (q := 6) d_Mod_salted_5 ha rfl ?_
  refine j_iload_n (i := 2) (x := x2) (q := 7) d_Mod_salted_6 rfl rfl rfl ?_
  refine j_iadd (q := 8) d_Mod_salted_7 rfl ?_
  refine j_lt (fun v1 => ?_)
  refine j_istore_n (i := 3) (L' := [some (.ref a), some (.int x1), some (.int x2), some (.int v1)]) (q := 9) d_Mod_salted_8 rfl (by decide) rfl rfl rfl ?_
  refine j_aload_n (i := 0) (x := a) (q := 10) d_Mod_salted_9 rfl rfl rfl ?_
  refine j_bipush (v := 6) (q := 12) d_Mod_salted_10 (by decide +kernel) rfl ?_
  refine j_iload_n (i := 1) (x := x1) (q := 13) d_Mod_salted_12 rfl rfl rfl ?_
  refine j_iadd (q := 14) d_Mod_salted_13 rfl ?_
  refine j_iload_n (i := 3) (x := v1) (q := 15) d_Mod_salted_14 rfl rfl rfl ?_
  refine j_sipush (v := 999) (q := 18) d_Mod_salted_15 (by decide +kernel) rfl ?_
  refine j_icmp_le (t := 27) (q := 21) d_Mod_salted_18 (by decide) rfl ?_ ?_
  · refine j_iload_n (i := 3) (x := v1) (q := 28) d_Mod_salted_27 rfl rfl rfl ?_
    refine j_iast (q := 29) d_Mod_salted_28 ha rfl (fun X2 => ?_)
    exact j_vret d_Mod_salted_29
  · refine j_sipush (v := 999) (q := 24) d_Mod_salted_21 (by decide +kernel) rfl ?_
    refine j_goto (q := 28) d_Mod_salted_24 (by decide) ?_
    refine j_iast (q := 29) d_Mod_salted_28 ha rfl (fun X3 => ?_)
    exact j_vret d_Mod_salted_29
def f_Mod_goLet (a : Nat) (x1 : Int32) (x2 : Int32) (X : HI) (Y : HL) : Option Out :=
    bi (f_Mod_flow a x1 x2 X Y) (fun r3 X1 Y2 =>
    gd (ixb (x1 + (1 : Int32)) 15) (
    wr (ixb (x1 + (1 : Int32)) 15) (up X1 a (x1 + (1 : Int32)).toNatClampNeg ((X1 a (x1 + (1 : Int32)).toNatClampNeg) + x2)) (fun X4 =>
    bv (f_Mod_salted a (x1 + (1 : Int32)) r3 X4 Y2) (fun X5 Y6 =>
    (rI r3 X5 Y6)))))
set_option maxRecDepth 4000 in
theorem c_Mod_goLet {K : KK} (hK : kOK K) (a : Nat) (ha : AI a 15) (x1 : Int32) (x2 : Int32) (X : HI) (Y : HL) : CT K y_Mod_goLet prog_8_method_24_code 4 (some .int) rm_Mod_goLet [.ref a, .int x1, .int x2] X Y (f_Mod_goLet a x1 x2 X Y) := by
  refine ct_of hK (L := [some (.ref a), some (.int x1), some (.int x2), none]) (by decide) ⟨rfl, ⟨rfl, ⟨rfl, trivial⟩⟩⟩ (Nat.le_of_ble_eq_true rfl) ?_
  unfold f_Mod_goLet
  refine j_aload_n (i := 0) (x := a) (q := 1) d_Mod_goLet_0 rfl rfl rfl ?_
  refine j_iload_n (i := 1) (x := x1) (q := 2) d_Mod_goLet_1 rfl rfl rfl ?_
  refine j_iload_n (i := 2) (x := x2) (q := 3) d_Mod_goLet_2 rfl rfl rfl ?_
  refine j_callSi (S := []) (q := 6) [.ref a, .int x1, .int x2] d_Mod_goLet_3 mw_Mod_flow ms_Mod_flow ml_Mod_113 rfl rfl (c_Mod_flow hK a ha x1 x2 X Y) ⟨⟨rfl, rfl⟩, ⟨Nat.le_of_ble_eq_true rfl, Nat.le_of_ble_eq_true rfl⟩, ⟨Nat.le_refl 0, Nat.le_refl 0⟩⟩ (Nat.le_of_ble_eq_true rfl) rfl (fun r3 X1 Y2 => ?_)
  refine j_istore_n (i := 3) (L' := [some (.ref a), some (.int x1), some (.int x2), some (.int r3)]) (q := 7) d_Mod_goLet_6 rfl (by decide) rfl rfl rfl ?_
  refine j_aload_n (i := 0) (x := a) (q := 8) d_Mod_goLet_7 rfl rfl rfl ?_
  refine j_iload_n (i := 1) (x := x1) (q := 9) d_Mod_goLet_8 rfl rfl rfl ?_
  refine j_iconst (v := 1) (q := 10) d_Mod_goLet_9 (by decide) rfl ?_
  refine j_iadd (q := 11) d_Mod_goLet_10 rfl ?_
  refine j_dup2 (q := 12) d_Mod_goLet_11 rfl rfl rfl ?_
  refine j_iald (q := 13) d_Mod_goLet_12 ha rfl ?_
  refine j_iload_n (i := 2) (x := x2) (q := 14) d_Mod_goLet_13 rfl rfl rfl ?_
  refine j_iadd (q := 15) d_Mod_goLet_14 rfl ?_
  refine j_iast (q := 16) d_Mod_goLet_15 ha rfl (fun X4 => ?_)
  refine j_aload_n (i := 0) (x := a) (q := 17) d_Mod_goLet_16 rfl rfl rfl ?_
  refine j_iload_n (i := 1) (x := x1) (q := 18) d_Mod_goLet_17 rfl rfl rfl ?_
  refine j_iconst (v := 1) (q := 19) d_Mod_goLet_18 (by decide) rfl ?_
  refine j_iadd (q := 20) d_Mod_goLet_19 rfl ?_
  refine j_iload_n (i := 3) (x := r3) (q := 21) d_Mod_goLet_20 rfl rfl rfl ?_
  refine j_callSv (S := []) (q := 24) [.ref a, .int (x1 + (1 : Int32)), .int r3] d_Mod_goLet_21 mw_Mod_salted ms_Mod_salted ml_Mod_117 rfl rfl (c_Mod_salted hK a ha (x1 + (1 : Int32)) r3 X4 Y2) ⟨⟨rfl, rfl⟩, ⟨Nat.le_of_ble_eq_true rfl, Nat.le_of_ble_eq_true rfl⟩, ⟨Nat.le_refl 0, Nat.le_refl 0⟩⟩ (Nat.le_of_ble_eq_true rfl) rfl (fun X5 Y6 => ?_)
  refine j_iload_n (i := 3) (x := r3) (q := 25) d_Mod_goLet_24 rfl rfl rfl ?_
  exact j_iret d_Mod_goLet_25
def f_Mod_skyOf (a : Nat) (X : HI) (Y : HL) : Option Out :=
    (if (X 70 6) = 0 then
    (rI (0 : Int32) X Y)
    else
    gd (ixb (14 : Int32) 15) (
    gd (nzb (X 70 6)) (
    gd (ixb ((X a (14 : Int32).toNatClampNeg) - (X a (14 : Int32).toNatClampNeg) / (X 70 6) * (X 70 6)) 5) (
    (rI (X 73 ((X a (14 : Int32).toNatClampNeg) - (X a (14 : Int32).toNatClampNeg) / (X 70 6) * (X 70 6)).toNatClampNeg) X Y)))))
set_option maxRecDepth 4000 in
theorem c_Mod_skyOf {K : KK} (hK : kOK K) (a : Nat) (ha : AI a 15) (X : HI) (Y : HL) : CT K y_Mod_skyOf prog_8_method_25_code 2 (some .int) rm_Mod_skyOf [.ref 70, .ref a] X Y (f_Mod_skyOf a X Y) := by
  refine ct_of hK (L := [some (.ref 70), some (.ref a)]) (by decide) ⟨rfl, ⟨rfl, trivial⟩⟩ (Nat.le_of_ble_eq_true rfl) ?_
  unfold f_Mod_skyOf
  refine j_aload_n (i := 0) (x := 70) (q := 1) d_Mod_skyOf_0 rfl rfl rfl ?_
  refine j_get (v := .int (X 70 6)) (q := 4) d_Mod_skyOf_1 fk_Mod_100 fv_70_6 rfl ?_
  refine j_if_ne (t := 11) (q := 7) d_Mod_skyOf_4 (by decide) rfl ?_ ?_
  · refine j_aload_n (i := 0) (x := 70) (q := 12) d_Mod_skyOf_11 rfl rfl rfl ?_
    refine j_get (v := .ref 73) (q := 15) d_Mod_skyOf_12 fk_Mod_16 fv_70_7 rfl ?_
    refine j_aload_n (i := 1) (x := a) (q := 16) d_Mod_skyOf_15 rfl rfl rfl ?_
    refine j_bipush (v := 14) (q := 18) d_Mod_skyOf_16 (by decide +kernel) rfl ?_
    refine j_iald (q := 19) d_Mod_skyOf_18 ha rfl ?_
    refine j_aload_n (i := 0) (x := 70) (q := 20) d_Mod_skyOf_19 rfl rfl rfl ?_
    refine j_get (v := .int (X 70 6)) (q := 23) d_Mod_skyOf_20 fk_Mod_100 fv_70_6 rfl ?_
    refine j_irem (q := 24) d_Mod_skyOf_23 rfl ?_
    refine j_iald (q := 25) d_Mod_skyOf_24 ai_73 rfl ?_
    exact j_iret d_Mod_skyOf_25
  · refine j_iconst (v := 0) (q := 8) d_Mod_skyOf_7 (by decide) rfl ?_
    refine j_goto (q := 25) d_Mod_skyOf_8 (by decide) ?_
    exact j_iret d_Mod_skyOf_25
def b_Mod_weather_55 (a : Nat) (x2 : Int32) (s0 : Int32) (s1 : Int32) (X : HI) (Y : HL) : Option Out :=
    lt (s1 + s0) (fun v1 =>
    gd (ixb x2 15) (
    (if v1 ≤ (X a x2.toNatClampNeg) then
    gd (ixb x2 15) (
    wr (ixb x2 15) (up X a x2.toNatClampNeg ((X a x2.toNatClampNeg) - v1)) (fun X2 =>
    (rV X2 Y)))
    else
    wr (ixb x2 15) (up X a x2.toNatClampNeg (0 : Int32)) (fun X3 =>
    (rV X3 Y)))))
def b_Mod_weather_54 (a : Nat) (x2 : Int32) (s0 : Int32) (X : HI) (Y : HL) : Option Out :=
    (b_Mod_weather_55 a x2 (0 : Int32) s0 X Y)
def f_Mod_weather (a : Nat) (x2 : Int32) (x3 : Int32) (X : HI) (Y : HL) : Option Out :=
    (if 0 ≤ x3 then
    (if x3 ≤ 0 then
    (b_Mod_weather_54 a x2 x3 X Y)
    else
    gd (ixb x2 6) (
    (if (X 72 x2.toNatClampNeg) = (2 : Int32) then
    (b_Mod_weather_55 a x2 (1 : Int32) x3 X Y)
    else
    (b_Mod_weather_54 a x2 x3 X Y))))
    else
    gd (ixb x2 15) (
    bi (f_Mod_room a x2 X Y) (fun r6 X4 Y5 =>
    (if (-x3) ≤ r6 then
    wr (ixb x2 15) (up X4 a x2.toNatClampNeg ((X a x2.toNatClampNeg) + (-x3))) (fun X7 =>
    (rV X7 Y5))
    else
    bi (f_Mod_room a x2 X4 Y5) (fun r10 X8 Y9 =>
    wr (ixb x2 15) (up X8 a x2.toNatClampNeg ((X a x2.toNatClampNeg) + r10)) (fun X11 =>
    (rV X11 Y9)))))))
set_option maxRecDepth 4000 in
theorem jb_Mod_weather_55 {K : KK} (hK : kOK K) (a : Nat) (ha : AI a 15) (x2 : Int32) (s0 : Int32) (s1 : Int32) (X : HI) (Y : HL) : JO K "BrinePansModel" prog_8_method_26_code 5 none rm_Mod_weather 0 0 (MZ K) 55 [none, some (.ref a), some (.int x2), none, none] [.int s0, .int s1] X Y (b_Mod_weather_55 a x2 s0 s1 X Y) := by
  unfold b_Mod_weather_55
  refine j_iadd (q := 56) d_Mod_weather_55 rfl ?_
  refine j_lt (fun v1 => ?_)
  refine j_istore (i := 4) (L' := [none, some (.ref a), some (.int x2), none, some (.int v1)]) (q := 58) d_Mod_weather_56 (by decide) rfl rfl rfl ?_
  refine j_aload_n (i := 1) (x := a) (q := 59) d_Mod_weather_58 rfl rfl rfl ?_
  refine j_iload_n (i := 2) (x := x2) (q := 60) d_Mod_weather_59 rfl rfl rfl ?_
  refine j_aload_n (i := 1) (x := a) (q := 61) d_Mod_weather_60 rfl rfl rfl ?_
  refine j_iload_n (i := 2) (x := x2) (q := 62) d_Mod_weather_61 rfl rfl rfl ?_
  refine j_iald (q := 63) d_Mod_weather_62 ha rfl ?_
  refine j_iload (i := 4) (x := v1) (q := 65) d_Mod_weather_63 rfl rfl ?_
  refine j_icmp_ge (t := 72) (q := 68) d_Mod_weather_65 (by decide) rfl ?_ ?_
  · refine j_aload_n (i := 1) (x := a) (q := 73) d_Mod_weather_72 rfl rfl rfl ?_
    refine j_iload_n (i := 2) (x := x2) (q := 74) d_Mod_weather_73 rfl rfl rfl ?_
    refine j_iald (q := 75) d_Mod_weather_74 ha rfl ?_
    refine j_iload (i := 4) (x := v1) (q := 77) d_Mod_weather_75 rfl rfl ?_
    refine j_isub (q := 78) d_Mod_weather_77 rfl ?_
    refine j_iast (q := 79) d_Mod_weather_78 ha rfl (fun X2 => ?_)
    exact j_vret d_Mod_weather_79
  · refine j_iconst (v := 0) (q := 69) d_Mod_weather_68 (by decide) rfl ?_
    refine j_goto (q := 78) d_Mod_weather_69 (by decide) ?_
    refine j_iast (q := 79) d_Mod_weather_78 ha rfl (fun X3 => ?_)
    exact j_vret d_Mod_weather_79
set_option maxRecDepth 4000 in
theorem jb_Mod_weather_54 {K : KK} (hK : kOK K) (a : Nat) (ha : AI a 15) (x2 : Int32) (s0 : Int32) (X : HI) (Y : HL) : JO K "BrinePansModel" prog_8_method_26_code 5 none rm_Mod_weather 0 0 (MZ K) 54 [none, some (.ref a), some (.int x2), none, none] [.int s0] X Y (b_Mod_weather_54 a x2 s0 X Y) := by
  unfold b_Mod_weather_54
  refine j_iconst (v := 0) (q := 55) d_Mod_weather_54 (by decide) rfl ?_
  refine j_sub (L' := [none, some (.ref a), some (.int x2), none, none]) ⟨rfl, ⟨rfl, trivial⟩⟩ ?_
  exact jb_Mod_weather_55 hK a ha x2 (0 : Int32) s0 X Y
set_option maxRecDepth 4000 in
theorem c_Mod_weather {K : KK} (hK : kOK K) (a : Nat) (ha : AI a 15) (x2 : Int32) (x3 : Int32) (X : HI) (Y : HL) : CT K y_Mod_weather prog_8_method_26_code 5 none rm_Mod_weather [.ref 70, .ref a, .int x2, .int x3] X Y (f_Mod_weather a x2 x3 X Y) := by
  refine ct_of hK (L := [some (.ref 70), some (.ref a), some (.int x2), some (.int x3), none]) (by decide) ⟨rfl, ⟨rfl, ⟨rfl, ⟨rfl, trivial⟩⟩⟩⟩ (Nat.le_of_ble_eq_true rfl) ?_
  unfold f_Mod_weather
  refine j_iload_n (i := 3) (x := x3) (q := 1) d_Mod_weather_0 rfl rfl rfl ?_
  refine j_if_ge (t := 35) (q := 4) d_Mod_weather_1 (by decide) rfl ?_ ?_
  · refine j_iload_n (i := 3) (x := x3) (q := 36) d_Mod_weather_35 rfl rfl rfl ?_
    refine j_iload_n (i := 3) (x := x3) (q := 37) d_Mod_weather_36 rfl rfl rfl ?_
    refine j_if_le (t := 54) (q := 40) d_Mod_weather_37 (by decide) rfl ?_ ?_
    · refine j_sub (L' := [none, some (.ref a), some (.int x2), none, none]) ⟨rfl, ⟨rfl, trivial⟩⟩ ?_
      exact jb_Mod_weather_54 hK a ha x2 x3 X Y
    · refine j_aload_n (i := 0) (x := 70) (q := 41) d_Mod_weather_40 rfl rfl rfl ?_
      refine j_get (v := .ref 72) (q := 44) d_Mod_weather_41 fk_Mod_13 fv_70_5 rfl ?_
      refine j_iload_n (i := 2) (x := x2) (q := 45) d_Mod_weather_44 rfl rfl rfl ?_
      refine j_iald (q := 46) d_Mod_weather_45 ai_72 rfl ?_
      refine j_iconst (v := 2) (q := 47) d_Mod_weather_46 (by decide) rfl ?_
      refine j_icmp_ne (t := 54) (q := 50) d_Mod_weather_47 (by decide) rfl ?_ ?_
      · refine j_sub (L' := [none, some (.ref a), some (.int x2), none, none]) ⟨rfl, ⟨rfl, trivial⟩⟩ ?_
        exact jb_Mod_weather_54 hK a ha x2 x3 X Y
      · refine j_iconst (v := 1) (q := 51) d_Mod_weather_50 (by decide) rfl ?_
        refine j_goto (q := 55) d_Mod_weather_51 (by decide) ?_
        refine j_sub (L' := [none, some (.ref a), some (.int x2), none, none]) ⟨rfl, ⟨rfl, trivial⟩⟩ ?_
        exact jb_Mod_weather_55 hK a ha x2 (1 : Int32) x3 X Y
  · refine j_aload_n (i := 1) (x := a) (q := 5) d_Mod_weather_4 rfl rfl rfl ?_
    refine j_iload_n (i := 2) (x := x2) (q := 6) d_Mod_weather_5 rfl rfl rfl ?_
    refine j_dup2 (q := 7) d_Mod_weather_6 rfl rfl rfl ?_
    refine j_iald (q := 8) d_Mod_weather_7 ha rfl ?_
    refine j_aload_n (i := 0) (x := 70) (q := 9) d_Mod_weather_8 rfl rfl rfl ?_
    refine j_aload_n (i := 1) (x := a) (q := 10) d_Mod_weather_9 rfl rfl rfl ?_
    refine j_iload_n (i := 2) (x := x2) (q := 11) d_Mod_weather_10 rfl rfl rfl ?_
    refine j_callVi (a := 70) (S := [.int (X a x2.toNatClampNeg), .int x2, .ref a]) (q := 14) [.ref a, .int x2] d_Mod_weather_11 mw_Mod_room mv_Mod_room ml_Mod_121 ob_70 rfl rfl (c_Mod_room hK a ha x2 X Y) ⟨⟨rfl, rfl⟩, ⟨Nat.le_of_ble_eq_true rfl, Nat.le_of_ble_eq_true rfl⟩, ⟨Nat.le_refl 0, Nat.le_refl 0⟩⟩ (Nat.le_of_ble_eq_true rfl) rfl (fun r6 X4 Y5 => ?_)
    refine j_iload_n (i := 3) (x := x3) (q := 15) d_Mod_weather_14 rfl rfl rfl ?_
    refine j_ineg (q := 16) d_Mod_weather_15 rfl ?_
    refine j_icmp_ge (t := 28) (q := 19) d_Mod_weather_16 (by decide) rfl ?_ ?_
    · refine j_iload_n (i := 3) (x := x3) (q := 29) d_Mod_weather_28 rfl rfl rfl ?_
      refine j_ineg (q := 30) d_Mod_weather_29 rfl ?_
      refine j_iadd (q := 31) d_Mod_weather_30 rfl ?_
      refine j_iast (q := 32) d_Mod_weather_31 ha rfl (fun X7 => ?_)
      refine j_goto (q := 79) d_Mod_weather_32 (by decide) ?_
      exact j_vret d_Mod_weather_79
    · refine j_aload_n (i := 0) (x := 70) (q := 20) d_Mod_weather_19 rfl rfl rfl ?_
      refine j_aload_n (i := 1) (x := a) (q := 21) d_Mod_weather_20 rfl rfl rfl ?_
      refine j_iload_n (i := 2) (x := x2) (q := 22) d_Mod_weather_21 rfl rfl rfl ?_
      refine j_callVi (a := 70) (S := [.int (X a x2.toNatClampNeg), .int x2, .ref a]) (q := 25) [.ref a, .int x2] d_Mod_weather_22 mw_Mod_room mv_Mod_room ml_Mod_121 ob_70 rfl rfl (c_Mod_room hK a ha x2 X4 Y5) ⟨⟨rfl, rfl⟩, ⟨Nat.le_of_ble_eq_true rfl, Nat.le_of_ble_eq_true rfl⟩, ⟨Nat.le_refl 0, Nat.le_refl 0⟩⟩ (Nat.le_of_ble_eq_true rfl) rfl (fun r10 X8 Y9 => ?_)
      refine j_goto (q := 30) d_Mod_weather_25 (by decide) ?_
      refine j_iadd (q := 31) d_Mod_weather_30 rfl ?_
      refine j_iast (q := 32) d_Mod_weather_31 ha rfl (fun X11 => ?_)
      refine j_goto (q := 79) d_Mod_weather_32 (by decide) ?_
      exact j_vret d_Mod_weather_79
def b_Mod_goDay_47 (a : Nat) (kc : Int32 → HI → HL → Option Out) (kx : Int32 → HI → HL → Option Out) (x2 : Int32) (x3 : Int32) (X : HI) (Y : HL) : Option Out :=
    (kc (x3 + (1 : Int32)) X Y)
def l_Mod_goDay_2 (a : Nat) (x2 : Int32) (kx : Int32 → HI → HL → Option Out) : Nat → Int32 → HI → HL → Option Out
  | 0, _, _, _ => none
  | n + 1, m3, X, Y =>
    (if ((X 70 4) - (1 : Int32)) ≤ m3 then
    (kx m3 X Y)
    else
    gd (ixb (12 : Int32) 15) (
    bi (f_Mod_has (X a (12 : Int32).toNatClampNeg) m3 X Y) (fun r3 X1 Y2 =>
    (if r3 = 0 then
    (b_Mod_goDay_47 a (fun a3 A B => l_Mod_goDay_2 a x2 kx n a3 A B) kx x2 m3 X1 Y2)
    else
    gd (ixb m3 15) (
    (if (X1 a m3.toNatClampNeg) ≤ 0 then
    (b_Mod_goDay_47 a (fun a3 A B => l_Mod_goDay_2 a x2 kx n a3 A B) kx x2 m3 X1 Y2)
    else
    bi (f_Mod_room a (m3 + (1 : Int32)) X1 Y2) (fun r6 X4 Y5 =>
    (if r6 ≤ 0 then
    (b_Mod_goDay_47 a (fun a3 A B => l_Mod_goDay_2 a x2 kx n a3 A B) kx x2 m3 X4 Y5)
    else
    bi (f_Mod_goLet a m3 (1 : Int32) X4 Y5) (fun r9 X7 Y8 =>
    (b_Mod_goDay_47 a (fun a3 A B => l_Mod_goDay_2 a x2 kx n a3 A B) kx x2 m3 X7 Y8))))))))))
def b_Mod_goDay_86 (a : Nat) (kc : Int32 → HI → HL → Option Out) (kx : Int32 → HI → HL → Option Out) (x2 : Int32) (x3 : Int32) (X : HI) (Y : HL) : Option Out :=
    (kc (x3 + (1 : Int32)) X Y)
def l_Mod_goDay_55 (a : Nat) (x2 : Int32) (kx : Int32 → HI → HL → Option Out) : Nat → Int32 → HI → HL → Option Out
  | 0, _, _, _ => none
  | n + 1, m3, X, Y =>
    (if (X 70 4) ≤ m3 then
    (kx m3 X Y)
    else
    gd (ixb m3 6) (
    (if (X 72 m3.toNatClampNeg) = (3 : Int32) then
    gd (ixb m3 15) (
    (if (X a m3.toNatClampNeg) ≤ 0 then
    (b_Mod_goDay_86 a (fun a3 A B => l_Mod_goDay_55 a x2 kx n a3 A B) kx x2 m3 X Y)
    else
    bi (f_Mod_flow a m3 (1 : Int32) X Y) (fun r15 X13 Y14 =>
    (b_Mod_goDay_86 a (fun a3 A B => l_Mod_goDay_55 a x2 kx n a3 A B) kx x2 m3 X13 Y14))))
    else
    (b_Mod_goDay_86 a (fun a3 A B => l_Mod_goDay_55 a x2 kx n a3 A B) kx x2 m3 X Y))))
def l_Mod_goDay_115 (a : Nat) (x3 : Int32) (kx : Int32 → HI → HL → Option Out) : Nat → Int32 → HI → HL → Option Out
  | 0, _, _, _ => none
  | n + 1, m4, X, Y =>
    (if (X 70 4) ≤ m4 then
    (kx m4 X Y)
    else
    bv (f_Mod_weather a m4 x3 X Y) (fun X22 Y23 =>
    (l_Mod_goDay_115 a x3 kx n (m4 + (1 : Int32)) X22 Y23)))
def b_Mod_goDay_111 (a : Nat) (s0 : Int32) (X : HI) (Y : HL) : Option Out :=
    (l_Mod_goDay_115 a s0 (fun w24 X25 Y26 =>
    gd (ixb (14 : Int32) 15) (
    wr (ixb (14 : Int32) 15) (up X25 a (14 : Int32).toNatClampNeg ((X25 a (14 : Int32).toNatClampNeg) + (1 : Int32))) (fun X27 =>
    (rV X27 Y26)))) 256 (0 : Int32) X Y)
def b_Mod_goDay_110 (a : Nat) (x3 : Int32) (X : HI) (Y : HL) : Option Out :=
    (b_Mod_goDay_111 a x3 X Y)
def f_Mod_goDay (a : Nat) (x2 : Int32) (X : HI) (Y : HL) : Option Out :=
    (l_Mod_goDay_2 a x2 (fun w10 X11 Y12 =>
    (l_Mod_goDay_55 a x2 (fun w16 X17 Y18 =>
    bi (f_Mod_skyOf a X17 Y18) (fun r21 X19 Y20 =>
    (if r21 ≤ 0 then
    (b_Mod_goDay_110 a r21 X19 Y20)
    else
    (if x2 = 0 then
    (b_Mod_goDay_111 a (0 : Int32) X19 Y20)
    else
    (b_Mod_goDay_110 a r21 X19 Y20))))) 256 (0 : Int32) X11 Y12)) 256 (0 : Int32) X Y)
set_option maxRecDepth 4000 in
theorem jb_Mod_goDay_47 {K : KK} (hK : kOK K) (a : Nat) (ha : AI a 15) (kc : Int32 → HI → HL → Option Out) (kx : Int32 → HI → HL → Option Out) (x2 : Int32) (x3 : Int32) (hkc : ∀ (m3 : Int32) (X : HI) (Y : HL), JO K "BrinePansModel" prog_8_method_27_code 5 none rm_Mod_goDay 0 0 (MZ K) 2 [some (.ref 70), some (.ref a), some (.int x2), some (.int m3), none] [] X Y (kc m3 X Y)) (hkx : ∀ (m3 : Int32) (X : HI) (Y : HL), JO K "BrinePansModel" prog_8_method_27_code 5 none rm_Mod_goDay 0 0 (MZ K) 53 [some (.ref 70), some (.ref a), some (.int x2), none, none] [] X Y (kx m3 X Y)) (X : HI) (Y : HL) : JO K "BrinePansModel" prog_8_method_27_code 5 none rm_Mod_goDay 0 0 (MZ K) 47 [some (.ref 70), some (.ref a), some (.int x2), some (.int x3), none] [] X Y (b_Mod_goDay_47 a kc kx x2 x3 X Y) := by
  unfold b_Mod_goDay_47
  refine j_iinc (i := 3) (x := x3) (d := 1) (L' := [some (.ref 70), some (.ref a), some (.int x2), some (.int (x3 + (1 : Int32))), none]) (q := 50) d_Mod_goDay_47 rfl (by decide) (by decide) rfl rfl rfl ?_
  refine j_goto (q := 2) d_Mod_goDay_50 (by decide) ?_
  refine j_sub (L' := [some (.ref 70), some (.ref a), some (.int x2), some (.int (x3 + (1 : Int32))), none]) ⟨rfl, ⟨rfl, ⟨rfl, ⟨rfl, trivial⟩⟩⟩⟩ ?_
  exact hkc (x3 + (1 : Int32)) X Y
set_option maxRecDepth 4000 in
theorem jl_Mod_goDay_2 {K : KK} (hK : kOK K) (a : Nat) (ha : AI a 15) (x2 : Int32) (kx : Int32 → HI → HL → Option Out) (hkx : ∀ (m3 : Int32) (X : HI) (Y : HL), JO K "BrinePansModel" prog_8_method_27_code 5 none rm_Mod_goDay 0 0 (MZ K) 53 [some (.ref 70), some (.ref a), some (.int x2), none, none] [] X Y (kx m3 X Y)) : ∀ (n : Nat) (m3 : Int32) (X : HI) (Y : HL), JO K "BrinePansModel" prog_8_method_27_code 5 none rm_Mod_goDay 0 0 (MZ K) 2 [some (.ref 70), some (.ref a), some (.int x2), some (.int m3), none] [] X Y (l_Mod_goDay_2 a x2 kx n m3 X Y) := by
  intro n
  induction n with
  | zero =>
    intro m3 X Y
    rw [l_Mod_goDay_2]
    exact j_none
  | succ n ih =>
    intro m3 X Y
    rw [l_Mod_goDay_2]
    refine j_iload_n (i := 3) (x := m3) (q := 3) d_Mod_goDay_2 rfl rfl rfl ?_
    refine j_aload_n (i := 0) (x := 70) (q := 4) d_Mod_goDay_3 rfl rfl rfl ?_
    refine j_get (v := .int (X 70 4)) (q := 7) d_Mod_goDay_4 fk_Mod_60 fv_70_4 rfl ?_
    refine j_iconst (v := 1) (q := 8) d_Mod_goDay_7 (by decide) rfl ?_
    refine j_isub (q := 9) d_Mod_goDay_8 rfl ?_
    refine j_icmp_ge (t := 53) (q := 12) d_Mod_goDay_9 (by decide) rfl ?_ ?_
    · refine j_sub (L' := [some (.ref 70), some (.ref a), some (.int x2), none, none]) ⟨rfl, ⟨rfl, ⟨rfl, trivial⟩⟩⟩ ?_
      exact hkx m3 X Y
    · refine j_aload_n (i := 1) (x := a) (q := 13) d_Mod_goDay_12 rfl rfl rfl ?_
      refine j_bipush (v := 12) (q := 15) d_Mod_goDay_13 (by decide +kernel) rfl ?_
      refine j_iald (q := 16) d_Mod_goDay_15 ha rfl ?_
      refine j_iload_n (i := 3) (x := m3) (q := 17) d_Mod_goDay_16 rfl rfl rfl ?_
      refine j_callSi (S := []) (q := 20) [.int (X a (12 : Int32).toNatClampNeg), .int m3] d_Mod_goDay_17 mw_Mod_has ms_Mod_has ml_Mod_124 rfl rfl (c_Mod_has hK (X a (12 : Int32).toNatClampNeg) m3 X Y) ⟨⟨rfl, rfl⟩, ⟨Nat.le_of_ble_eq_true rfl, Nat.le_of_ble_eq_true rfl⟩, ⟨Nat.le_refl 0, Nat.le_refl 0⟩⟩ (Nat.le_of_ble_eq_true rfl) rfl (fun r3 X1 Y2 => ?_)
      refine j_if_eq (t := 47) (q := 23) d_Mod_goDay_20 (by decide) rfl ?_ ?_
      · refine j_sub (L' := [some (.ref 70), some (.ref a), some (.int x2), some (.int m3), none]) ⟨rfl, ⟨rfl, ⟨rfl, ⟨rfl, trivial⟩⟩⟩⟩ ?_
        exact jb_Mod_goDay_47 hK a ha (fun a3 A B => l_Mod_goDay_2 a x2 kx n a3 A B) kx x2 m3 ih hkx X1 Y2
      · refine j_aload_n (i := 1) (x := a) (q := 24) d_Mod_goDay_23 rfl rfl rfl ?_
        refine j_iload_n (i := 3) (x := m3) (q := 25) d_Mod_goDay_24 rfl rfl rfl ?_
        refine j_iald (q := 26) d_Mod_goDay_25 ha rfl ?_
        refine j_if_le (t := 47) (q := 29) d_Mod_goDay_26 (by decide) rfl ?_ ?_
        · refine j_sub (L' := [some (.ref 70), some (.ref a), some (.int x2), some (.int m3), none]) ⟨rfl, ⟨rfl, ⟨rfl, ⟨rfl, trivial⟩⟩⟩⟩ ?_
          exact jb_Mod_goDay_47 hK a ha (fun a3 A B => l_Mod_goDay_2 a x2 kx n a3 A B) kx x2 m3 ih hkx X1 Y2
        · refine j_aload_n (i := 0) (x := 70) (q := 30) d_Mod_goDay_29 rfl rfl rfl ?_
          refine j_aload_n (i := 1) (x := a) (q := 31) d_Mod_goDay_30 rfl rfl rfl ?_
          refine j_iload_n (i := 3) (x := m3) (q := 32) d_Mod_goDay_31 rfl rfl rfl ?_
          refine j_iconst (v := 1) (q := 33) d_Mod_goDay_32 (by decide) rfl ?_
          refine j_iadd (q := 34) d_Mod_goDay_33 rfl ?_
          refine j_callVi (a := 70) (S := []) (q := 37) [.ref a, .int (m3 + (1 : Int32))] d_Mod_goDay_34 mw_Mod_room mv_Mod_room ml_Mod_121 ob_70 rfl rfl (c_Mod_room hK a ha (m3 + (1 : Int32)) X1 Y2) ⟨⟨rfl, rfl⟩, ⟨Nat.le_of_ble_eq_true rfl, Nat.le_of_ble_eq_true rfl⟩, ⟨Nat.le_refl 0, Nat.le_refl 0⟩⟩ (Nat.le_of_ble_eq_true rfl) rfl (fun r6 X4 Y5 => ?_)
          refine j_if_le (t := 47) (q := 40) d_Mod_goDay_37 (by decide) rfl ?_ ?_
          · refine j_sub (L' := [some (.ref 70), some (.ref a), some (.int x2), some (.int m3), none]) ⟨rfl, ⟨rfl, ⟨rfl, ⟨rfl, trivial⟩⟩⟩⟩ ?_
            exact jb_Mod_goDay_47 hK a ha (fun a3 A B => l_Mod_goDay_2 a x2 kx n a3 A B) kx x2 m3 ih hkx X4 Y5
          · refine j_aload_n (i := 1) (x := a) (q := 41) d_Mod_goDay_40 rfl rfl rfl ?_
            refine j_iload_n (i := 3) (x := m3) (q := 42) d_Mod_goDay_41 rfl rfl rfl ?_
            refine j_iconst (v := 1) (q := 43) d_Mod_goDay_42 (by decide) rfl ?_
            refine j_callSi (S := []) (q := 46) [.ref a, .int m3, .int (1 : Int32)] d_Mod_goDay_43 mw_Mod_goLet ms_Mod_goLet ml_Mod_128 rfl rfl (c_Mod_goLet hK a ha m3 (1 : Int32) X4 Y5) ⟨⟨rfl, rfl⟩, ⟨Nat.le_of_ble_eq_true rfl, Nat.le_of_ble_eq_true rfl⟩, ⟨Nat.le_refl 0, Nat.le_refl 0⟩⟩ (Nat.le_of_ble_eq_true rfl) rfl (fun r9 X7 Y8 => ?_)
            refine j_pop (q := 47) d_Mod_goDay_46 rfl rfl ?_
            refine j_sub (L' := [some (.ref 70), some (.ref a), some (.int x2), some (.int m3), none]) ⟨rfl, ⟨rfl, ⟨rfl, ⟨rfl, trivial⟩⟩⟩⟩ ?_
            exact jb_Mod_goDay_47 hK a ha (fun a3 A B => l_Mod_goDay_2 a x2 kx n a3 A B) kx x2 m3 ih hkx X7 Y8
set_option maxRecDepth 4000 in
theorem jb_Mod_goDay_86 {K : KK} (hK : kOK K) (a : Nat) (ha : AI a 15) (kc : Int32 → HI → HL → Option Out) (kx : Int32 → HI → HL → Option Out) (x2 : Int32) (x3 : Int32) (hkc : ∀ (m3 : Int32) (X : HI) (Y : HL), JO K "BrinePansModel" prog_8_method_27_code 5 none rm_Mod_goDay 0 0 (MZ K) 55 [some (.ref 70), some (.ref a), some (.int x2), some (.int m3), none] [] X Y (kc m3 X Y)) (hkx : ∀ (m3 : Int32) (X : HI) (Y : HL), JO K "BrinePansModel" prog_8_method_27_code 5 none rm_Mod_goDay 0 0 (MZ K) 92 [some (.ref 70), some (.ref a), some (.int x2), none, none] [] X Y (kx m3 X Y)) (X : HI) (Y : HL) : JO K "BrinePansModel" prog_8_method_27_code 5 none rm_Mod_goDay 0 0 (MZ K) 86 [some (.ref 70), some (.ref a), some (.int x2), some (.int x3), none] [] X Y (b_Mod_goDay_86 a kc kx x2 x3 X Y) := by
  unfold b_Mod_goDay_86
  refine j_iinc (i := 3) (x := x3) (d := 1) (L' := [some (.ref 70), some (.ref a), some (.int x2), some (.int (x3 + (1 : Int32))), none]) (q := 89) d_Mod_goDay_86 rfl (by decide) (by decide) rfl rfl rfl ?_
  refine j_goto (q := 55) d_Mod_goDay_89 (by decide) ?_
  refine j_sub (L' := [some (.ref 70), some (.ref a), some (.int x2), some (.int (x3 + (1 : Int32))), none]) ⟨rfl, ⟨rfl, ⟨rfl, ⟨rfl, trivial⟩⟩⟩⟩ ?_
  exact hkc (x3 + (1 : Int32)) X Y
set_option maxRecDepth 4000 in
theorem jl_Mod_goDay_55 {K : KK} (hK : kOK K) (a : Nat) (ha : AI a 15) (x2 : Int32) (kx : Int32 → HI → HL → Option Out) (hkx : ∀ (m3 : Int32) (X : HI) (Y : HL), JO K "BrinePansModel" prog_8_method_27_code 5 none rm_Mod_goDay 0 0 (MZ K) 92 [some (.ref 70), some (.ref a), some (.int x2), none, none] [] X Y (kx m3 X Y)) : ∀ (n : Nat) (m3 : Int32) (X : HI) (Y : HL), JO K "BrinePansModel" prog_8_method_27_code 5 none rm_Mod_goDay 0 0 (MZ K) 55 [some (.ref 70), some (.ref a), some (.int x2), some (.int m3), none] [] X Y (l_Mod_goDay_55 a x2 kx n m3 X Y) := by
  intro n
  induction n with
  | zero =>
    intro m3 X Y
    rw [l_Mod_goDay_55]
    exact j_none
  | succ n ih =>
    intro m3 X Y
    rw [l_Mod_goDay_55]
    refine j_iload_n (i := 3) (x := m3) (q := 56) d_Mod_goDay_55 rfl rfl rfl ?_
    refine j_aload_n (i := 0) (x := 70) (q := 57) d_Mod_goDay_56 rfl rfl rfl ?_
    refine j_get (v := .int (X 70 4)) (q := 60) d_Mod_goDay_57 fk_Mod_60 fv_70_4 rfl ?_
    refine j_icmp_ge (t := 92) (q := 63) d_Mod_goDay_60 (by decide) rfl ?_ ?_
    · refine j_sub (L' := [some (.ref 70), some (.ref a), some (.int x2), none, none]) ⟨rfl, ⟨rfl, ⟨rfl, trivial⟩⟩⟩ ?_
      exact hkx m3 X Y
    · refine j_aload_n (i := 0) (x := 70) (q := 64) d_Mod_goDay_63 rfl rfl rfl ?_
      refine j_get (v := .ref 72) (q := 67) d_Mod_goDay_64 fk_Mod_13 fv_70_5 rfl ?_
      refine j_iload_n (i := 3) (x := m3) (q := 68) d_Mod_goDay_67 rfl rfl rfl ?_
      refine j_iald (q := 69) d_Mod_goDay_68 ai_72 rfl ?_
      refine j_iconst (v := 3) (q := 70) d_Mod_goDay_69 (by decide) rfl ?_
      refine j_icmp_ne (t := 86) (q := 73) d_Mod_goDay_70 (by decide) rfl ?_ ?_
      · refine j_sub (L' := [some (.ref 70), some (.ref a), some (.int x2), some (.int m3), none]) ⟨rfl, ⟨rfl, ⟨rfl, ⟨rfl, trivial⟩⟩⟩⟩ ?_
        exact jb_Mod_goDay_86 hK a ha (fun a3 A B => l_Mod_goDay_55 a x2 kx n a3 A B) kx x2 m3 ih hkx X Y
      · refine j_aload_n (i := 1) (x := a) (q := 74) d_Mod_goDay_73 rfl rfl rfl ?_
        refine j_iload_n (i := 3) (x := m3) (q := 75) d_Mod_goDay_74 rfl rfl rfl ?_
        refine j_iald (q := 76) d_Mod_goDay_75 ha rfl ?_
        refine j_if_le (t := 86) (q := 79) d_Mod_goDay_76 (by decide) rfl ?_ ?_
        · refine j_sub (L' := [some (.ref 70), some (.ref a), some (.int x2), some (.int m3), none]) ⟨rfl, ⟨rfl, ⟨rfl, ⟨rfl, trivial⟩⟩⟩⟩ ?_
          exact jb_Mod_goDay_86 hK a ha (fun a3 A B => l_Mod_goDay_55 a x2 kx n a3 A B) kx x2 m3 ih hkx X Y
        · refine j_aload_n (i := 1) (x := a) (q := 80) d_Mod_goDay_79 rfl rfl rfl ?_
          refine j_iload_n (i := 3) (x := m3) (q := 81) d_Mod_goDay_80 rfl rfl rfl ?_
          refine j_iconst (v := 1) (q := 82) d_Mod_goDay_81 (by decide) rfl ?_
          refine j_callSi (S := []) (q := 85) [.ref a, .int m3, .int (1 : Int32)] d_Mod_goDay_82 mw_Mod_flow ms_Mod_flow ml_Mod_113 rfl rfl (c_Mod_flow hK a ha m3 (1 : Int32) X Y) ⟨⟨rfl, rfl⟩, ⟨Nat.le_of_ble_eq_true rfl, Nat.le_of_ble_eq_true rfl⟩, ⟨Nat.le_refl 0, Nat.le_refl 0⟩⟩ (Nat.le_of_ble_eq_true rfl) rfl (fun r15 X13 Y14 => ?_)
          refine j_pop (q := 86) d_Mod_goDay_85 rfl rfl ?_
          refine j_sub (L' := [some (.ref 70), some (.ref a), some (.int x2), some (.int m3), none]) ⟨rfl, ⟨rfl, ⟨rfl, ⟨rfl, trivial⟩⟩⟩⟩ ?_
          exact jb_Mod_goDay_86 hK a ha (fun a3 A B => l_Mod_goDay_55 a x2 kx n a3 A B) kx x2 m3 ih hkx X13 Y14
set_option maxRecDepth 4000 in
theorem jl_Mod_goDay_115 {K : KK} (hK : kOK K) (a : Nat) (ha : AI a 15) (x3 : Int32) (kx : Int32 → HI → HL → Option Out) (hkx : ∀ (m4 : Int32) (X : HI) (Y : HL), JO K "BrinePansModel" prog_8_method_27_code 5 none rm_Mod_goDay 0 0 (MZ K) 138 [none, some (.ref a), none, none, none] [] X Y (kx m4 X Y)) : ∀ (n : Nat) (m4 : Int32) (X : HI) (Y : HL), JO K "BrinePansModel" prog_8_method_27_code 5 none rm_Mod_goDay 0 0 (MZ K) 115 [some (.ref 70), some (.ref a), none, some (.int x3), some (.int m4)] [] X Y (l_Mod_goDay_115 a x3 kx n m4 X Y) := by
  intro n
  induction n with
  | zero =>
    intro m4 X Y
    rw [l_Mod_goDay_115]
    exact j_none
  | succ n ih =>
    intro m4 X Y
    rw [l_Mod_goDay_115]
    refine j_iload (i := 4) (x := m4) (q := 117) d_Mod_goDay_115 rfl rfl ?_
    refine j_aload_n (i := 0) (x := 70) (q := 118) d_Mod_goDay_117 rfl rfl rfl ?_
    refine j_get (v := .int (X 70 4)) (q := 121) d_Mod_goDay_118 fk_Mod_60 fv_70_4 rfl ?_
    refine j_icmp_ge (t := 138) (q := 124) d_Mod_goDay_121 (by decide) rfl ?_ ?_
    · refine j_sub (L' := [none, some (.ref a), none, none, none]) ⟨rfl, trivial⟩ ?_
      exact hkx m4 X Y
    · refine j_aload_n (i := 0) (x := 70) (q := 125) d_Mod_goDay_124 rfl rfl rfl ?_
      refine j_aload_n (i := 1) (x := a) (q := 126) d_Mod_goDay_125 rfl rfl rfl ?_
      refine j_iload (i := 4) (x := m4) (q := 128) d_Mod_goDay_126 rfl rfl ?_
      refine j_iload_n (i := 3) (x := x3) (q := 129) d_Mod_goDay_128 rfl rfl rfl ?_
      refine j_callVv (a := 70) (S := []) (q := 132) [.ref a, .int m4, .int x3] d_Mod_goDay_129 mw_Mod_weather mv_Mod_weather ml_Mod_135 ob_70 rfl rfl (c_Mod_weather hK a ha m4 x3 X Y) ⟨⟨rfl, rfl⟩, ⟨Nat.le_of_ble_eq_true rfl, Nat.le_of_ble_eq_true rfl⟩, ⟨Nat.le_refl 0, Nat.le_refl 0⟩⟩ (Nat.le_of_ble_eq_true rfl) rfl (fun X22 Y23 => ?_)
      refine j_iinc (i := 4) (x := m4) (d := 1) (L' := [some (.ref 70), some (.ref a), none, some (.int x3), some (.int (m4 + (1 : Int32)))]) (q := 135) d_Mod_goDay_132 rfl (by decide) (by decide) rfl rfl rfl ?_
      refine j_goto (q := 115) d_Mod_goDay_135 (by decide) ?_
      refine j_sub (L' := [some (.ref 70), some (.ref a), none, some (.int x3), some (.int (m4 + (1 : Int32)))]) ⟨rfl, ⟨rfl, ⟨rfl, ⟨rfl, trivial⟩⟩⟩⟩ ?_
      exact ih (m4 + (1 : Int32)) X22 Y23
set_option maxRecDepth 4000 in
theorem jb_Mod_goDay_111 {K : KK} (hK : kOK K) (a : Nat) (ha : AI a 15) (s0 : Int32) (X : HI) (Y : HL) : JO K "BrinePansModel" prog_8_method_27_code 5 none rm_Mod_goDay 0 0 (MZ K) 111 [some (.ref 70), some (.ref a), none, none, none] [.int s0] X Y (b_Mod_goDay_111 a s0 X Y) := by
  unfold b_Mod_goDay_111
  refine j_istore_n (i := 3) (L' := [some (.ref 70), some (.ref a), none, some (.int s0), none]) (q := 112) d_Mod_goDay_111 rfl (by decide) rfl rfl rfl ?_
  refine j_iconst (v := 0) (q := 113) d_Mod_goDay_112 (by decide) rfl ?_
  refine j_istore (i := 4) (L' := [some (.ref 70), some (.ref a), none, some (.int s0), some (.int (0 : Int32))]) (q := 115) d_Mod_goDay_113 (by decide) rfl rfl rfl ?_
  refine j_sub (L' := [some (.ref 70), some (.ref a), none, some (.int s0), some (.int (0 : Int32))]) ⟨rfl, ⟨rfl, ⟨rfl, ⟨rfl, trivial⟩⟩⟩⟩ ?_
  refine jl_Mod_goDay_115 hK a ha s0 _ (fun w24 X25 Y26 => ?_) 256 (0 : Int32) X Y
  refine j_aload_n (i := 1) (x := a) (q := 139) d_Mod_goDay_138 rfl rfl rfl ?_
  refine j_bipush (v := 14) (q := 141) d_Mod_goDay_139 (by decide +kernel) rfl ?_
  refine j_dup2 (q := 142) d_Mod_goDay_141 rfl rfl rfl ?_
  refine j_iald (q := 143) d_Mod_goDay_142 ha rfl ?_
  refine j_iconst (v := 1) (q := 144) d_Mod_goDay_143 (by decide) rfl ?_
  refine j_iadd (q := 145) d_Mod_goDay_144 rfl ?_
  refine j_iast (q := 146) d_Mod_goDay_145 ha rfl (fun X27 => ?_)
  exact j_vret d_Mod_goDay_146
set_option maxRecDepth 4000 in
theorem jb_Mod_goDay_110 {K : KK} (hK : kOK K) (a : Nat) (ha : AI a 15) (x3 : Int32) (X : HI) (Y : HL) : JO K "BrinePansModel" prog_8_method_27_code 5 none rm_Mod_goDay 0 0 (MZ K) 110 [some (.ref 70), some (.ref a), none, some (.int x3), none] [] X Y (b_Mod_goDay_110 a x3 X Y) := by
  unfold b_Mod_goDay_110
  refine j_iload_n (i := 3) (x := x3) (q := 111) d_Mod_goDay_110 rfl rfl rfl ?_
  refine j_sub (L' := [some (.ref 70), some (.ref a), none, none, none]) ⟨rfl, ⟨rfl, trivial⟩⟩ ?_
  exact jb_Mod_goDay_111 hK a ha x3 X Y
set_option maxRecDepth 4000 in
theorem c_Mod_goDay {K : KK} (hK : kOK K) (a : Nat) (ha : AI a 15) (x2 : Int32) (X : HI) (Y : HL) : CT K y_Mod_goDay prog_8_method_27_code 5 none rm_Mod_goDay [.ref 70, .ref a, .int x2] X Y (f_Mod_goDay a x2 X Y) := by
  refine ct_of hK (L := [some (.ref 70), some (.ref a), some (.int x2), none, none]) (by decide) ⟨rfl, ⟨rfl, ⟨rfl, trivial⟩⟩⟩ (Nat.le_of_ble_eq_true rfl) ?_
  unfold f_Mod_goDay
  refine j_iconst (v := 0) (q := 1) d_Mod_goDay_0 (by decide) rfl ?_
  refine j_istore_n (i := 3) (L' := [some (.ref 70), some (.ref a), some (.int x2), some (.int (0 : Int32)), none]) (q := 2) d_Mod_goDay_1 rfl (by decide) rfl rfl rfl ?_
  refine j_sub (L' := [some (.ref 70), some (.ref a), some (.int x2), some (.int (0 : Int32)), none]) ⟨rfl, ⟨rfl, ⟨rfl, ⟨rfl, trivial⟩⟩⟩⟩ ?_
  refine jl_Mod_goDay_2 hK a ha x2 _ (fun w10 X11 Y12 => ?_) 256 (0 : Int32) X Y
  refine j_iconst (v := 0) (q := 54) d_Mod_goDay_53 (by decide) rfl ?_
  refine j_istore_n (i := 3) (L' := [some (.ref 70), some (.ref a), some (.int x2), some (.int (0 : Int32)), none]) (q := 55) d_Mod_goDay_54 rfl (by decide) rfl rfl rfl ?_
  refine j_sub (L' := [some (.ref 70), some (.ref a), some (.int x2), some (.int (0 : Int32)), none]) ⟨rfl, ⟨rfl, ⟨rfl, ⟨rfl, trivial⟩⟩⟩⟩ ?_
  refine jl_Mod_goDay_55 hK a ha x2 _ (fun w16 X17 Y18 => ?_) 256 (0 : Int32) X11 Y12
  refine j_aload_n (i := 0) (x := 70) (q := 93) d_Mod_goDay_92 rfl rfl rfl ?_
  refine j_aload_n (i := 1) (x := a) (q := 94) d_Mod_goDay_93 rfl rfl rfl ?_
  refine j_callVi (a := 70) (S := []) (q := 97) [.ref a] d_Mod_goDay_94 mw_Mod_skyOf mv_Mod_skyOf ml_Mod_131 ob_70 rfl rfl (c_Mod_skyOf hK a ha X17 Y18) ⟨⟨rfl, rfl⟩, ⟨Nat.le_of_ble_eq_true rfl, Nat.le_of_ble_eq_true rfl⟩, ⟨Nat.le_refl 0, Nat.le_refl 0⟩⟩ (Nat.le_of_ble_eq_true rfl) rfl (fun r21 X19 Y20 => ?_)
  refine j_istore_n (i := 3) (L' := [some (.ref 70), some (.ref a), some (.int x2), some (.int r21), none]) (q := 98) d_Mod_goDay_97 rfl (by decide) rfl rfl rfl ?_
  refine j_iload_n (i := 3) (x := r21) (q := 99) d_Mod_goDay_98 rfl rfl rfl ?_
  refine j_if_le (t := 110) (q := 102) d_Mod_goDay_99 (by decide) rfl ?_ ?_
  · refine j_sub (L' := [some (.ref 70), some (.ref a), none, some (.int r21), none]) ⟨rfl, ⟨rfl, ⟨rfl, trivial⟩⟩⟩ ?_
    exact jb_Mod_goDay_110 hK a ha r21 X19 Y20
  · refine j_iload_n (i := 2) (x := x2) (q := 103) d_Mod_goDay_102 rfl rfl rfl ?_
    refine j_if_ne (t := 110) (q := 106) d_Mod_goDay_103 (by decide) rfl ?_ ?_
    · refine j_sub (L' := [some (.ref 70), some (.ref a), none, some (.int r21), none]) ⟨rfl, ⟨rfl, ⟨rfl, trivial⟩⟩⟩ ?_
      exact jb_Mod_goDay_110 hK a ha r21 X19 Y20
    · refine j_iconst (v := 0) (q := 107) d_Mod_goDay_106 (by decide) rfl ?_
      refine j_goto (q := 111) d_Mod_goDay_107 (by decide) ?_
      refine j_sub (L' := [some (.ref 70), some (.ref a), none, none, none]) ⟨rfl, ⟨rfl, trivial⟩⟩ ?_
      exact jb_Mod_goDay_111 hK a ha (0 : Int32) X19 Y20
def l_Mod_goDays_2 (a : Nat) (x2 : Int32) (kx : Int32 → HI → HL → Option Out) : Nat → Int32 → HI → HL → Option Out
  | 0, _, _, _ => none
  | n + 1, m3, X, Y =>
    (if x2 ≤ m3 then
    (kx m3 X Y)
    else
    bv (f_Mod_goDay a (1 : Int32) X Y) (fun X1 Y2 =>
    (l_Mod_goDays_2 a x2 kx n (m3 + (1 : Int32)) X1 Y2)))
def f_Mod_goDays (a : Nat) (x2 : Int32) (X : HI) (Y : HL) : Option Out :=
    (l_Mod_goDays_2 a x2 (fun w3 X4 Y5 =>
    (rV X4 Y5)) 256 (0 : Int32) X Y)
set_option maxRecDepth 4000 in
theorem jl_Mod_goDays_2 {K : KK} (hK : kOK K) (a : Nat) (ha : AI a 15) (x2 : Int32) (kx : Int32 → HI → HL → Option Out) (hkx : ∀ (m3 : Int32) (X : HI) (Y : HL), JO K "BrinePansModel" prog_8_method_28_code 4 none rm_Mod_goDays 0 0 (MZ K) 19 [none, none, none, none] [] X Y (kx m3 X Y)) : ∀ (n : Nat) (m3 : Int32) (X : HI) (Y : HL), JO K "BrinePansModel" prog_8_method_28_code 4 none rm_Mod_goDays 0 0 (MZ K) 2 [some (.ref 70), some (.ref a), some (.int x2), some (.int m3)] [] X Y (l_Mod_goDays_2 a x2 kx n m3 X Y) := by
  intro n
  induction n with
  | zero =>
    intro m3 X Y
    rw [l_Mod_goDays_2]
    exact j_none
  | succ n ih =>
    intro m3 X Y
    rw [l_Mod_goDays_2]
    refine j_iload_n (i := 3) (x := m3) (q := 3) d_Mod_goDays_2 rfl rfl rfl ?_
    refine j_iload_n (i := 2) (x := x2) (q := 4) d_Mod_goDays_3 rfl rfl rfl ?_
    refine j_icmp_ge (t := 19) (q := 7) d_Mod_goDays_4 (by decide) rfl ?_ ?_
    · refine j_sub (L' := [none, none, none, none]) trivial ?_
      exact hkx m3 X Y
    · refine j_aload_n (i := 0) (x := 70) (q := 8) d_Mod_goDays_7 rfl rfl rfl ?_
      refine j_aload_n (i := 1) (x := a) (q := 9) d_Mod_goDays_8 rfl rfl rfl ?_
      refine j_iconst (v := 1) (q := 10) d_Mod_goDays_9 (by decide) rfl ?_
      refine j_callVv (a := 70) (S := []) (q := 13) [.ref a, .int (1 : Int32)] d_Mod_goDays_10 mw_Mod_goDay mv_Mod_goDay ml_Mod_138 ob_70 rfl rfl (c_Mod_goDay hK a ha (1 : Int32) X Y) ⟨⟨rfl, rfl⟩, ⟨Nat.le_of_ble_eq_true rfl, Nat.le_of_ble_eq_true rfl⟩, ⟨Nat.le_refl 0, Nat.le_refl 0⟩⟩ (Nat.le_of_ble_eq_true rfl) rfl (fun X1 Y2 => ?_)
      refine j_iinc (i := 3) (x := m3) (d := 1) (L' := [some (.ref 70), some (.ref a), some (.int x2), some (.int (m3 + (1 : Int32)))]) (q := 16) d_Mod_goDays_13 rfl (by decide) (by decide) rfl rfl rfl ?_
      refine j_goto (q := 2) d_Mod_goDays_16 (by decide) ?_
      refine j_sub (L' := [some (.ref 70), some (.ref a), some (.int x2), some (.int (m3 + (1 : Int32)))]) ⟨rfl, ⟨rfl, ⟨rfl, ⟨rfl, trivial⟩⟩⟩⟩ ?_
      exact ih (m3 + (1 : Int32)) X1 Y2
set_option maxRecDepth 4000 in
theorem c_Mod_goDays {K : KK} (hK : kOK K) (a : Nat) (ha : AI a 15) (x2 : Int32) (X : HI) (Y : HL) : CT K y_Mod_goDays prog_8_method_28_code 4 none rm_Mod_goDays [.ref 70, .ref a, .int x2] X Y (f_Mod_goDays a x2 X Y) := by
  refine ct_of hK (L := [some (.ref 70), some (.ref a), some (.int x2), none]) (by decide) ⟨rfl, ⟨rfl, ⟨rfl, trivial⟩⟩⟩ (Nat.le_of_ble_eq_true rfl) ?_
  unfold f_Mod_goDays
  refine j_iconst (v := 0) (q := 1) d_Mod_goDays_0 (by decide) rfl ?_
  refine j_istore_n (i := 3) (L' := [some (.ref 70), some (.ref a), some (.int x2), some (.int (0 : Int32))]) (q := 2) d_Mod_goDays_1 rfl (by decide) rfl rfl rfl ?_
  refine j_sub (L' := [some (.ref 70), some (.ref a), some (.int x2), some (.int (0 : Int32))]) ⟨rfl, ⟨rfl, ⟨rfl, ⟨rfl, trivial⟩⟩⟩⟩ ?_
  refine jl_Mod_goDays_2 hK a ha x2 _ (fun w3 X4 Y5 => ?_) 256 (0 : Int32) X Y
  exact j_vret d_Mod_goDays_19
def f_Mod_canRake (a : Nat) (x1 : Int32) (X : HI) (Y : HL) : Option Out :=
    gd (ixb x1 15) (
    (if (1 : Int32) < (X a x1.toNatClampNeg) then
    (rI (0 : Int32) X Y)
    else
    bi (f_Mod_crustOf a x1 X Y) (fun r3 X1 Y2 =>
    (if r3 ≤ 0 then
    (rI (0 : Int32) X1 Y2)
    else
    (rI (1 : Int32) X1 Y2)))))
set_option maxRecDepth 4000 in
theorem c_Mod_canRake {K : KK} (hK : kOK K) (a : Nat) (ha : AI a 15) (x1 : Int32) (X : HI) (Y : HL) : CT K y_Mod_canRake prog_8_method_29_code 2 (some .boolean) rm_Mod_canRake [.ref a, .int x1] X Y (f_Mod_canRake a x1 X Y) := by
  refine ct_of hK (L := [some (.ref a), some (.int x1)]) (by decide) ⟨rfl, ⟨rfl, trivial⟩⟩ (Nat.le_of_ble_eq_true rfl) ?_
  unfold f_Mod_canRake
  refine j_aload_n (i := 0) (x := a) (q := 1) d_Mod_canRake_0 rfl rfl rfl ?_
  refine j_iload_n (i := 1) (x := x1) (q := 2) d_Mod_canRake_1 rfl rfl rfl ?_
  refine j_iald (q := 3) d_Mod_canRake_2 ha rfl ?_
  refine j_iconst (v := 1) (q := 4) d_Mod_canRake_3 (by decide) rfl ?_
  refine j_icmp_gt (t := 19) (q := 7) d_Mod_canRake_4 (by decide) rfl ?_ ?_
  · refine j_iconst (v := 0) (q := 20) d_Mod_canRake_19 (by decide) rfl ?_
    exact j_zret d_Mod_canRake_20 (by decide)
  · refine j_aload_n (i := 0) (x := a) (q := 8) d_Mod_canRake_7 rfl rfl rfl ?_
    refine j_iload_n (i := 1) (x := x1) (q := 9) d_Mod_canRake_8 rfl rfl rfl ?_
    refine j_callSi (S := []) (q := 12) [.ref a, .int x1] d_Mod_canRake_9 mw_Mod_crustOf ms_Mod_crustOf ml_Mod_110 rfl rfl (c_Mod_crustOf hK a ha x1 X Y) ⟨⟨rfl, rfl⟩, ⟨Nat.le_of_ble_eq_true rfl, Nat.le_of_ble_eq_true rfl⟩, ⟨Nat.le_refl 0, Nat.le_refl 0⟩⟩ (Nat.le_of_ble_eq_true rfl) rfl (fun r3 X1 Y2 => ?_)
    refine j_if_le (t := 19) (q := 15) d_Mod_canRake_12 (by decide) rfl ?_ ?_
    · refine j_iconst (v := 0) (q := 20) d_Mod_canRake_19 (by decide) rfl ?_
      exact j_zret d_Mod_canRake_20 (by decide)
    · refine j_iconst (v := 1) (q := 16) d_Mod_canRake_15 (by decide) rfl ?_
      refine j_goto (q := 20) d_Mod_canRake_16 (by decide) ?_
      exact j_zret d_Mod_canRake_20 (by decide)
def b_Mod_ripeOnes_28 (a : Nat) (kc : Int32 → Int32 → HI → HL → Option Out) (kx : Int32 → Int32 → HI → HL → Option Out) (x3 : Int32) (s0 : Int32) (s1 : Int32) (X : HI) (Y : HL) : Option Out :=
    lt (s1 ||| s0) (fun v4 =>
    (kc v4 (x3 + (1 : Int32)) X Y))
def l_Mod_ripeOnes_4 (a : Nat) (kx : Int32 → Int32 → HI → HL → Option Out) : Nat → Int32 → Int32 → HI → HL → Option Out
  | 0, _, _, _, _ => none
  | n + 1, m2, m3, X, Y =>
    (if (X 70 4) ≤ m3 then
    (kx m2 m3 X Y)
    else
    bi (f_Mod_canRake a m3 X Y) (fun r3 X1 Y2 =>
    (if r3 = 0 then
    (b_Mod_ripeOnes_28 a (fun a2 a3 A B => l_Mod_ripeOnes_4 a kx n a2 a3 A B) kx m3 (0 : Int32) m2 X1 Y2)
    else
    (b_Mod_ripeOnes_28 a (fun a2 a3 A B => l_Mod_ripeOnes_4 a kx n a2 a3 A B) kx m3 ((1 : Int32) <<< (m3 &&& 31)) m2 X1 Y2))))
def f_Mod_ripeOnes (a : Nat) (X : HI) (Y : HL) : Option Out :=
    (l_Mod_ripeOnes_4 a (fun w5 w6 X7 Y8 =>
    (rI w5 X7 Y8)) 256 (0 : Int32) (0 : Int32) X Y)
set_option maxRecDepth 4000 in
theorem jb_Mod_ripeOnes_28 {K : KK} (hK : kOK K) (a : Nat) (ha : AI a 15) (kc : Int32 → Int32 → HI → HL → Option Out) (kx : Int32 → Int32 → HI → HL → Option Out) (x3 : Int32) (s0 : Int32) (s1 : Int32) (hkc : ∀ (m2 : Int32) (m3 : Int32) (X : HI) (Y : HL), JO K "BrinePansModel" prog_8_method_30_code 4 (some .int) rm_Mod_ripeOnes 0 0 (MZ K) 4 [some (.ref 70), some (.ref a), some (.int m2), some (.int m3)] [] X Y (kc m2 m3 X Y)) (hkx : ∀ (m2 : Int32) (m3 : Int32) (X : HI) (Y : HL), JO K "BrinePansModel" prog_8_method_30_code 4 (some .int) rm_Mod_ripeOnes 0 0 (MZ K) 36 [none, none, some (.int m2), none] [] X Y (kx m2 m3 X Y)) (X : HI) (Y : HL) : JO K "BrinePansModel" prog_8_method_30_code 4 (some .int) rm_Mod_ripeOnes 0 0 (MZ K) 28 [some (.ref 70), some (.ref a), none, some (.int x3)] [.int s0, .int s1] X Y (b_Mod_ripeOnes_28 a kc kx x3 s0 s1 X Y) := by
  unfold b_Mod_ripeOnes_28
  refine j_ior (q := 29) d_Mod_ripeOnes_28 rfl ?_
  refine j_lt (fun v4 => ?_)
  refine j_istore_n (i := 2) (L' := [some (.ref 70), some (.ref a), some (.int v4), some (.int x3)]) (q := 30) d_Mod_ripeOnes_29 rfl (by decide) rfl rfl rfl ?_
  refine j_iinc (i := 3) (x := x3) (d := 1) (L' := [some (.ref 70), some (.ref a), some (.int v4), some (.int (x3 + (1 : Int32)))]) (q := 33) d_Mod_ripeOnes_30 rfl (by decide) (by decide) rfl rfl rfl ?_
  refine j_goto (q := 4) d_Mod_ripeOnes_33 (by decide) ?_
  refine j_sub (L' := [some (.ref 70), some (.ref a), some (.int v4), some (.int (x3 + (1 : Int32)))]) ⟨rfl, ⟨rfl, ⟨rfl, ⟨rfl, trivial⟩⟩⟩⟩ ?_
  exact hkc v4 (x3 + (1 : Int32)) X Y
set_option maxRecDepth 4000 in
theorem jl_Mod_ripeOnes_4 {K : KK} (hK : kOK K) (a : Nat) (ha : AI a 15) (kx : Int32 → Int32 → HI → HL → Option Out) (hkx : ∀ (m2 : Int32) (m3 : Int32) (X : HI) (Y : HL), JO K "BrinePansModel" prog_8_method_30_code 4 (some .int) rm_Mod_ripeOnes 0 0 (MZ K) 36 [none, none, some (.int m2), none] [] X Y (kx m2 m3 X Y)) : ∀ (n : Nat) (m2 : Int32) (m3 : Int32) (X : HI) (Y : HL), JO K "BrinePansModel" prog_8_method_30_code 4 (some .int) rm_Mod_ripeOnes 0 0 (MZ K) 4 [some (.ref 70), some (.ref a), some (.int m2), some (.int m3)] [] X Y (l_Mod_ripeOnes_4 a kx n m2 m3 X Y) := by
  intro n
  induction n with
  | zero =>
    intro m2 m3 X Y
    rw [l_Mod_ripeOnes_4]
    exact j_none
  | succ n ih =>
    intro m2 m3 X Y
    rw [l_Mod_ripeOnes_4]
    refine j_iload_n (i := 3) (x := m3) (q := 5) d_Mod_ripeOnes_4 rfl rfl rfl ?_
    refine j_aload_n (i := 0) (x := 70) (q := 6) d_Mod_ripeOnes_5 rfl rfl rfl ?_
    refine j_get (v := .int (X 70 4)) (q := 9) d_Mod_ripeOnes_6 fk_Mod_60 fv_70_4 rfl ?_
    refine j_icmp_ge (t := 36) (q := 12) d_Mod_ripeOnes_9 (by decide) rfl ?_ ?_
    · refine j_sub (L' := [none, none, some (.int m2), none]) ⟨rfl, trivial⟩ ?_
      exact hkx m2 m3 X Y
    · refine j_iload_n (i := 2) (x := m2) (q := 13) d_Mod_ripeOnes_12 rfl rfl rfl ?_
      refine j_aload_n (i := 1) (x := a) (q := 14) d_Mod_ripeOnes_13 rfl rfl rfl ?_
      refine j_iload_n (i := 3) (x := m3) (q := 15) d_Mod_ripeOnes_14 rfl rfl rfl ?_
      refine j_callSi (S := [.int m2]) (q := 18) [.ref a, .int m3] d_Mod_ripeOnes_15 mw_Mod_canRake ms_Mod_canRake ml_Mod_142 rfl rfl (c_Mod_canRake hK a ha m3 X Y) ⟨⟨rfl, rfl⟩, ⟨Nat.le_of_ble_eq_true rfl, Nat.le_of_ble_eq_true rfl⟩, ⟨Nat.le_refl 0, Nat.le_refl 0⟩⟩ (Nat.le_of_ble_eq_true rfl) rfl (fun r3 X1 Y2 => ?_)
      refine j_if_eq (t := 27) (q := 21) d_Mod_ripeOnes_18 (by decide) rfl ?_ ?_
      · refine j_iconst (v := 0) (q := 28) d_Mod_ripeOnes_27 (by decide) rfl ?_
        refine j_sub (L' := [some (.ref 70), some (.ref a), none, some (.int m3)]) ⟨rfl, ⟨rfl, ⟨rfl, trivial⟩⟩⟩ ?_
        exact jb_Mod_ripeOnes_28 hK a ha (fun a2 a3 A B => l_Mod_ripeOnes_4 a kx n a2 a3 A B) kx m3 (0 : Int32) m2 ih hkx X1 Y2
      · refine j_iconst (v := 1) (q := 22) d_Mod_ripeOnes_21 (by decide) rfl ?_
        refine j_iload_n (i := 3) (x := m3) (q := 23) d_Mod_ripeOnes_22 rfl rfl rfl ?_
        refine j_ishl (q := 24) d_Mod_ripeOnes_23 rfl ?_
        refine j_goto (q := 28) d_Mod_ripeOnes_24 (by decide) ?_
        refine j_sub (L' := [some (.ref 70), some (.ref a), none, some (.int m3)]) ⟨rfl, ⟨rfl, ⟨rfl, trivial⟩⟩⟩ ?_
        exact jb_Mod_ripeOnes_28 hK a ha (fun a2 a3 A B => l_Mod_ripeOnes_4 a kx n a2 a3 A B) kx m3 ((1 : Int32) <<< (m3 &&& 31)) m2 ih hkx X1 Y2
set_option maxRecDepth 4000 in
theorem c_Mod_ripeOnes {K : KK} (hK : kOK K) (a : Nat) (ha : AI a 15) (X : HI) (Y : HL) : CT K y_Mod_ripeOnes prog_8_method_30_code 4 (some .int) rm_Mod_ripeOnes [.ref 70, .ref a] X Y (f_Mod_ripeOnes a X Y) := by
  refine ct_of hK (L := [some (.ref 70), some (.ref a), none, none]) (by decide) ⟨rfl, ⟨rfl, trivial⟩⟩ (Nat.le_of_ble_eq_true rfl) ?_
  unfold f_Mod_ripeOnes
  refine j_iconst (v := 0) (q := 1) d_Mod_ripeOnes_0 (by decide) rfl ?_
  refine j_istore_n (i := 2) (L' := [some (.ref 70), some (.ref a), some (.int (0 : Int32)), none]) (q := 2) d_Mod_ripeOnes_1 rfl (by decide) rfl rfl rfl ?_
  refine j_iconst (v := 0) (q := 3) d_Mod_ripeOnes_2 (by decide) rfl ?_
  refine j_istore_n (i := 3) (L' := [some (.ref 70), some (.ref a), some (.int (0 : Int32)), some (.int (0 : Int32))]) (q := 4) d_Mod_ripeOnes_3 rfl (by decide) rfl rfl rfl ?_
  refine j_sub (L' := [some (.ref 70), some (.ref a), some (.int (0 : Int32)), some (.int (0 : Int32))]) ⟨rfl, ⟨rfl, ⟨rfl, ⟨rfl, trivial⟩⟩⟩⟩ ?_
  refine jl_Mod_ripeOnes_4 hK a ha _ (fun w5 w6 X7 Y8 => ?_) 256 (0 : Int32) (0 : Int32) X Y
  refine j_iload_n (i := 2) (x := w5) (q := 37) d_Mod_ripeOnes_36 rfl rfl rfl ?_
  exact j_iret d_Mod_ripeOnes_37
def l_Mod_sumFrom_4 (x1 : Int32) (kx : Int32 → Int32 → HI → HL → Option Out) : Nat → Int32 → Int32 → HI → HL → Option Out
  | 0, _, _, _, _ => none
  | n + 1, m2, m3, X, Y =>
    (if (X 70 4) ≤ m3 then
    (kx m2 m3 X Y)
    else
    gd (ixb (x1 + m3) 15) (
    lt (m2 + (X 76 (x1 + m3).toNatClampNeg)) (fun v1 =>
    (l_Mod_sumFrom_4 x1 kx n v1 (m3 + (1 : Int32)) X Y))))
def f_Mod_sumFrom (x1 : Int32) (X : HI) (Y : HL) : Option Out :=
    (l_Mod_sumFrom_4 x1 (fun w2 w3 X4 Y5 =>
    (rI w2 X4 Y5)) 256 (0 : Int32) (0 : Int32) X Y)
set_option maxRecDepth 4000 in
theorem jl_Mod_sumFrom_4 {K : KK} (hK : kOK K) (x1 : Int32) (kx : Int32 → Int32 → HI → HL → Option Out) (hkx : ∀ (m2 : Int32) (m3 : Int32) (X : HI) (Y : HL), JO K "BrinePansModel" prog_8_method_31_code 4 (some .int) rm_Mod_sumFrom 0 0 (MZ K) 29 [none, none, some (.int m2), none] [] X Y (kx m2 m3 X Y)) : ∀ (n : Nat) (m2 : Int32) (m3 : Int32) (X : HI) (Y : HL), JO K "BrinePansModel" prog_8_method_31_code 4 (some .int) rm_Mod_sumFrom 0 0 (MZ K) 4 [some (.ref 70), some (.int x1), some (.int m2), some (.int m3)] [] X Y (l_Mod_sumFrom_4 x1 kx n m2 m3 X Y) := by
  intro n
  induction n with
  | zero =>
    intro m2 m3 X Y
    rw [l_Mod_sumFrom_4]
    exact j_none
  | succ n ih =>
    intro m2 m3 X Y
    rw [l_Mod_sumFrom_4]
    refine j_iload_n (i := 3) (x := m3) (q := 5) d_Mod_sumFrom_4 rfl rfl rfl ?_
    refine j_aload_n (i := 0) (x := 70) (q := 6) d_Mod_sumFrom_5 rfl rfl rfl ?_
    refine j_get (v := .int (X 70 4)) (q := 9) d_Mod_sumFrom_6 fk_Mod_60 fv_70_4 rfl ?_
    refine j_icmp_ge (t := 29) (q := 12) d_Mod_sumFrom_9 (by decide) rfl ?_ ?_
    · refine j_sub (L' := [none, none, some (.int m2), none]) ⟨rfl, trivial⟩ ?_
      exact hkx m2 m3 X Y
    · refine j_iload_n (i := 2) (x := m2) (q := 13) d_Mod_sumFrom_12 rfl rfl rfl ?_
      refine j_aload_n (i := 0) (x := 70) (q := 14) d_Mod_sumFrom_13 rfl rfl rfl ?_
      refine j_get (v := .ref 76) (q := 17) d_Mod_sumFrom_14 fk_Mod_25 fv_70_12 rfl ?_
      refine j_iload_n (i := 1) (x := x1) (q := 18) d_Mod_sumFrom_17 rfl rfl rfl ?_
      refine j_iload_n (i := 3) (x := m3) (q := 19) d_Mod_sumFrom_18 rfl rfl rfl ?_
      refine j_iadd (q := 20) d_Mod_sumFrom_19 rfl ?_
      refine j_iald (q := 21) d_Mod_sumFrom_20 ai_76 rfl ?_
      refine j_iadd (q := 22) d_Mod_sumFrom_21 rfl ?_
      refine j_lt (fun v1 => ?_)
      refine j_istore_n (i := 2) (L' := [some (.ref 70), some (.int x1), some (.int v1), some (.int m3)]) (q := 23) d_Mod_sumFrom_22 rfl (by decide) rfl rfl rfl ?_
      refine j_iinc (i := 3) (x := m3) (d := 1) (L' := [some (.ref 70), some (.int x1), some (.int v1), some (.int (m3 + (1 : Int32)))]) (q := 26) d_Mod_sumFrom_23 rfl (by decide) (by decide) rfl rfl rfl ?_
      refine j_goto (q := 4) d_Mod_sumFrom_26 (by decide) ?_
      refine j_sub (L' := [some (.ref 70), some (.int x1), some (.int v1), some (.int (m3 + (1 : Int32)))]) ⟨rfl, ⟨rfl, ⟨rfl, ⟨rfl, trivial⟩⟩⟩⟩ ?_
      exact ih v1 (m3 + (1 : Int32)) X Y
set_option maxRecDepth 4000 in
theorem c_Mod_sumFrom {K : KK} (hK : kOK K) (x1 : Int32) (X : HI) (Y : HL) : CT K y_Mod_sumFrom prog_8_method_31_code 4 (some .int) rm_Mod_sumFrom [.ref 70, .int x1] X Y (f_Mod_sumFrom x1 X Y) := by
  refine ct_of hK (L := [some (.ref 70), some (.int x1), none, none]) (by decide) ⟨rfl, ⟨rfl, trivial⟩⟩ (Nat.le_of_ble_eq_true rfl) ?_
  unfold f_Mod_sumFrom
  refine j_iconst (v := 0) (q := 1) d_Mod_sumFrom_0 (by decide) rfl ?_
  refine j_istore_n (i := 2) (L' := [some (.ref 70), some (.int x1), some (.int (0 : Int32)), none]) (q := 2) d_Mod_sumFrom_1 rfl (by decide) rfl rfl rfl ?_
  refine j_iconst (v := 0) (q := 3) d_Mod_sumFrom_2 (by decide) rfl ?_
  refine j_istore_n (i := 3) (L' := [some (.ref 70), some (.int x1), some (.int (0 : Int32)), some (.int (0 : Int32))]) (q := 4) d_Mod_sumFrom_3 rfl (by decide) rfl rfl rfl ?_
  refine j_sub (L' := [some (.ref 70), some (.int x1), some (.int (0 : Int32)), some (.int (0 : Int32))]) ⟨rfl, ⟨rfl, ⟨rfl, ⟨rfl, trivial⟩⟩⟩⟩ ?_
  refine jl_Mod_sumFrom_4 hK x1 _ (fun w2 w3 X4 Y5 => ?_) 256 (0 : Int32) (0 : Int32) X Y
  refine j_iload_n (i := 2) (x := w2) (q := 30) d_Mod_sumFrom_29 rfl rfl rfl ?_
  exact j_iret d_Mod_sumFrom_30
def f_Mod_about (x1 : Int32) (X : HI) (Y : HL) : Option Out :=
    lh (up X 70 0 (0 : Int32)) (fun X1 =>
    (if x1 = (0 : Int32) then
    (rI (X1 70 4) X1 Y)
    else
    (if x1 = (1 : Int32) then
    (rI (X1 70 6) X1 Y)
    else
    (if x1 = (2 : Int32) then
    gd (ixb (14 : Int32) 15) (
    (rI (X1 76 (14 : Int32).toNatClampNeg) X1 Y))
    else
    (if x1 = (3 : Int32) then
    bi (f_Mod_skyOf 76 X1 Y) (fun r4 X2 Y3 =>
    (rI r4 X2 Y3))
    else
    (if x1 = (4 : Int32) then
    gd (ixb (12 : Int32) 15) (
    (rI (X1 76 (12 : Int32).toNatClampNeg) X1 Y))
    else
    (if x1 = (5 : Int32) then
    gd (ixb (13 : Int32) 15) (
    (rI (X1 76 (13 : Int32).toNatClampNeg) X1 Y))
    else
    (if x1 = (6 : Int32) then
    bi (f_Mod_sumFrom (0 : Int32) X1 Y) (fun r7 X5 Y6 =>
    (rI r7 X5 Y6))
    else
    (if x1 = (7 : Int32) then
    bi (f_Mod_sumFrom (6 : Int32) X1 Y) (fun r10 X8 Y9 =>
    (rI r10 X8 Y9))
    else
    (if x1 = (8 : Int32) then
    bi (f_Mod_crustOfAll 76 X1 Y) (fun r13 X11 Y12 =>
    (rI r13 X11 Y12))
    else
    (if x1 = (9 : Int32) then
    bi (f_Mod_ripeOnes 76 X1 Y) (fun r16 X14 Y15 =>
    (rI r16 X14 Y15))
    else
    (if x1 = (10 : Int32) then
    (rI (X1 70 15) X1 Y)
    else
    (if x1 = (11 : Int32) then
    (rI (X1 70 18) X1 Y)
    else
    (if x1 = (12 : Int32) then
    (rI (X1 70 2) X1 Y)
    else
    (rI (-2 : Int32) X1 Y)))))))))))))))
set_option maxRecDepth 4000 in
theorem c_Mod_about {K : KK} (hK : kOK K) (x1 : Int32) (X : HI) (Y : HL) : CT K y_Mod_about prog_8_method_32_code 2 (some .int) rm_Mod_about [.ref 70, .int x1] X Y (f_Mod_about x1 X Y) := by
  refine ct_of hK (L := [some (.ref 70), some (.int x1)]) (by decide) ⟨rfl, ⟨rfl, trivial⟩⟩ (Nat.le_of_ble_eq_true rfl) ?_
  unfold f_Mod_about
  refine j_aload_n (i := 0) (x := 70) (q := 1) d_Mod_about_0 rfl rfl rfl ?_
  refine j_iconst (v := 0) (q := 2) d_Mod_about_1 (by decide) rfl ?_
  refine j_putI (q := 5) d_Mod_about_2 fp_Mod_56 fw_70_0 rfl (fun X1 => ?_)
  refine j_iload_n (i := 1) (x := x1) (q := 6) d_Mod_about_5 rfl rfl rfl ?_
  refine j_ite (fun z6_0 => ?_) (fun z6_0 => ?_)
  · refine j_tabIn (z := 0) (t := 72) (off := 66) d_Mod_about_6 z6_0 (by decide) (by decide) (by decide) (by decide) ?_
    refine j_aload_n (i := 0) (x := 70) (q := 73) d_Mod_about_72 rfl rfl rfl ?_
    refine j_get (v := .int (X1 70 4)) (q := 76) d_Mod_about_73 fk_Mod_60 fv_70_4 rfl ?_
    exact j_iret d_Mod_about_76
  · skip
    refine j_ite (fun z6_1 => ?_) (fun z6_1 => ?_)
    · refine j_tabIn (z := 1) (t := 77) (off := 71) d_Mod_about_6 z6_1 (by decide) (by decide) (by decide) (by decide) ?_
      refine j_aload_n (i := 0) (x := 70) (q := 78) d_Mod_about_77 rfl rfl rfl ?_
      refine j_get (v := .int (X1 70 6)) (q := 81) d_Mod_about_78 fk_Mod_100 fv_70_6 rfl ?_
      exact j_iret d_Mod_about_81
    · skip
      refine j_ite (fun z6_2 => ?_) (fun z6_2 => ?_)
      · refine j_tabIn (z := 2) (t := 82) (off := 76) d_Mod_about_6 z6_2 (by decide) (by decide) (by decide) (by decide) ?_
        refine j_aload_n (i := 0) (x := 70) (q := 83) d_Mod_about_82 rfl rfl rfl ?_
        refine j_get (v := .ref 76) (q := 86) d_Mod_about_83 fk_Mod_25 fv_70_12 rfl ?_
        refine j_bipush (v := 14) (q := 88) d_Mod_about_86 (by decide +kernel) rfl ?_
        refine j_iald (q := 89) d_Mod_about_88 ai_76 rfl ?_
        exact j_iret d_Mod_about_89
      · skip
        refine j_ite (fun z6_3 => ?_) (fun z6_3 => ?_)
        · refine j_tabIn (z := 3) (t := 90) (off := 84) d_Mod_about_6 z6_3 (by decide) (by decide) (by decide) (by decide) ?_
          refine j_aload_n (i := 0) (x := 70) (q := 91) d_Mod_about_90 rfl rfl rfl ?_
          refine j_aload_n (i := 0) (x := 70) (q := 92) d_Mod_about_91 rfl rfl rfl ?_
          refine j_get (v := .ref 76) (q := 95) d_Mod_about_92 fk_Mod_25 fv_70_12 rfl ?_
          refine j_callVi (a := 70) (S := []) (q := 98) [.ref 76] d_Mod_about_95 mw_Mod_skyOf mv_Mod_skyOf ml_Mod_131 ob_70 rfl rfl (c_Mod_skyOf hK 76 ai_76 X1 Y) ⟨⟨rfl, rfl⟩, ⟨Nat.le_of_ble_eq_true rfl, Nat.le_of_ble_eq_true rfl⟩, ⟨Nat.le_refl 0, Nat.le_refl 0⟩⟩ (Nat.le_of_ble_eq_true rfl) rfl (fun r4 X2 Y3 => ?_)
          exact j_iret d_Mod_about_98
        · skip
          refine j_ite (fun z6_4 => ?_) (fun z6_4 => ?_)
          · refine j_tabIn (z := 4) (t := 99) (off := 93) d_Mod_about_6 z6_4 (by decide) (by decide) (by decide) (by decide) ?_
            refine j_aload_n (i := 0) (x := 70) (q := 100) d_Mod_about_99 rfl rfl rfl ?_
            refine j_get (v := .ref 76) (q := 103) d_Mod_about_100 fk_Mod_25 fv_70_12 rfl ?_
            refine j_bipush (v := 12) (q := 105) d_Mod_about_103 (by decide +kernel) rfl ?_
            refine j_iald (q := 106) d_Mod_about_105 ai_76 rfl ?_
            exact j_iret d_Mod_about_106
          · skip
            refine j_ite (fun z6_5 => ?_) (fun z6_5 => ?_)
            · refine j_tabIn (z := 5) (t := 107) (off := 101) d_Mod_about_6 z6_5 (by decide) (by decide) (by decide) (by decide) ?_
              refine j_aload_n (i := 0) (x := 70) (q := 108) d_Mod_about_107 rfl rfl rfl ?_
              refine j_get (v := .ref 76) (q := 111) d_Mod_about_108 fk_Mod_25 fv_70_12 rfl ?_
              refine j_bipush (v := 13) (q := 113) d_Mod_about_111 (by decide +kernel) rfl ?_
              refine j_iald (q := 114) d_Mod_about_113 ai_76 rfl ?_
              exact j_iret d_Mod_about_114
            · skip
              refine j_ite (fun z6_6 => ?_) (fun z6_6 => ?_)
              · refine j_tabIn (z := 6) (t := 115) (off := 109) d_Mod_about_6 z6_6 (by decide) (by decide) (by decide) (by decide) ?_
                refine j_aload_n (i := 0) (x := 70) (q := 116) d_Mod_about_115 rfl rfl rfl ?_
                refine j_iconst (v := 0) (q := 117) d_Mod_about_116 (by decide) rfl ?_
                refine j_callVi (a := 70) (S := []) (q := 120) [.int (0 : Int32)] d_Mod_about_117 mw_Mod_sumFrom mv_Mod_sumFrom ml_Mod_146 ob_70 rfl rfl (c_Mod_sumFrom hK (0 : Int32) X1 Y) ⟨⟨rfl, rfl⟩, ⟨Nat.le_of_ble_eq_true rfl, Nat.le_of_ble_eq_true rfl⟩, ⟨Nat.le_refl 0, Nat.le_refl 0⟩⟩ (Nat.le_of_ble_eq_true rfl) rfl (fun r7 X5 Y6 => ?_)
                exact j_iret d_Mod_about_120
              · skip
                refine j_ite (fun z6_7 => ?_) (fun z6_7 => ?_)
                · refine j_tabIn (z := 7) (t := 121) (off := 115) d_Mod_about_6 z6_7 (by decide) (by decide) (by decide) (by decide) ?_
                  refine j_aload_n (i := 0) (x := 70) (q := 122) d_Mod_about_121 rfl rfl rfl ?_
                  refine j_bipush (v := 6) (q := 124) d_Mod_about_122 (by decide +kernel) rfl ?_
                  refine j_callVi (a := 70) (S := []) (q := 127) [.int (6 : Int32)] d_Mod_about_124 mw_Mod_sumFrom mv_Mod_sumFrom ml_Mod_146 ob_70 rfl rfl (c_Mod_sumFrom hK (6 : Int32) X1 Y) ⟨⟨rfl, rfl⟩, ⟨Nat.le_of_ble_eq_true rfl, Nat.le_of_ble_eq_true rfl⟩, ⟨Nat.le_refl 0, Nat.le_refl 0⟩⟩ (Nat.le_of_ble_eq_true rfl) rfl (fun r10 X8 Y9 => ?_)
                  exact j_iret d_Mod_about_127
                · skip
                  refine j_ite (fun z6_8 => ?_) (fun z6_8 => ?_)
                  · refine j_tabIn (z := 8) (t := 128) (off := 122) d_Mod_about_6 z6_8 (by decide) (by decide) (by decide) (by decide) ?_
                    refine j_aload_n (i := 0) (x := 70) (q := 129) d_Mod_about_128 rfl rfl rfl ?_
                    refine j_aload_n (i := 0) (x := 70) (q := 130) d_Mod_about_129 rfl rfl rfl ?_
                    refine j_get (v := .ref 76) (q := 133) d_Mod_about_130 fk_Mod_25 fv_70_12 rfl ?_
                    refine j_callVi (a := 70) (S := []) (q := 136) [.ref 76] d_Mod_about_133 mw_Mod_crustOfAll mv_Mod_crustOfAll ml_Mod_150 ob_70 rfl rfl (c_Mod_crustOfAll hK 76 ai_76 X1 Y) ⟨⟨rfl, rfl⟩, ⟨Nat.le_of_ble_eq_true rfl, Nat.le_of_ble_eq_true rfl⟩, ⟨Nat.le_refl 0, Nat.le_refl 0⟩⟩ (Nat.le_of_ble_eq_true rfl) rfl (fun r13 X11 Y12 => ?_)
                    exact j_iret d_Mod_about_136
                  · skip
                    refine j_ite (fun z6_9 => ?_) (fun z6_9 => ?_)
                    · refine j_tabIn (z := 9) (t := 137) (off := 131) d_Mod_about_6 z6_9 (by decide) (by decide) (by decide) (by decide) ?_
                      refine j_aload_n (i := 0) (x := 70) (q := 138) d_Mod_about_137 rfl rfl rfl ?_
                      refine j_aload_n (i := 0) (x := 70) (q := 139) d_Mod_about_138 rfl rfl rfl ?_
                      refine j_get (v := .ref 76) (q := 142) d_Mod_about_139 fk_Mod_25 fv_70_12 rfl ?_
                      refine j_callVi (a := 70) (S := []) (q := 145) [.ref 76] d_Mod_about_142 mw_Mod_ripeOnes mv_Mod_ripeOnes ml_Mod_153 ob_70 rfl rfl (c_Mod_ripeOnes hK 76 ai_76 X1 Y) ⟨⟨rfl, rfl⟩, ⟨Nat.le_of_ble_eq_true rfl, Nat.le_of_ble_eq_true rfl⟩, ⟨Nat.le_refl 0, Nat.le_refl 0⟩⟩ (Nat.le_of_ble_eq_true rfl) rfl (fun r16 X14 Y15 => ?_)
                      exact j_iret d_Mod_about_145
                    · skip
                      refine j_ite (fun z6_10 => ?_) (fun z6_10 => ?_)
                      · refine j_tabIn (z := 10) (t := 146) (off := 140) d_Mod_about_6 z6_10 (by decide) (by decide) (by decide) (by decide) ?_
                        refine j_aload_n (i := 0) (x := 70) (q := 147) d_Mod_about_146 rfl rfl rfl ?_
                        refine j_get (v := .int (X1 70 15)) (q := 150) d_Mod_about_147 fk_Mod_103 fv_70_15 rfl ?_
                        exact j_iret d_Mod_about_150
                      · skip
                        refine j_ite (fun z6_11 => ?_) (fun z6_11 => ?_)
                        · refine j_tabIn (z := 11) (t := 151) (off := 145) d_Mod_about_6 z6_11 (by decide) (by decide) (by decide) (by decide) ?_
                          refine j_aload_n (i := 0) (x := 70) (q := 152) d_Mod_about_151 rfl rfl rfl ?_
                          refine j_get (v := .int (X1 70 18)) (q := 155) d_Mod_about_152 fk_Mod_156 fv_70_18 rfl ?_
                          exact j_iret d_Mod_about_155
                        · skip
                          refine j_ite (fun z6_12 => ?_) (fun z6_12 => ?_)
                          · refine j_tabIn (z := 12) (t := 156) (off := 150) d_Mod_about_6 z6_12 (by decide) (by decide) (by decide) (by decide) ?_
                            refine j_aload_n (i := 0) (x := 70) (q := 157) d_Mod_about_156 rfl rfl rfl ?_
                            refine j_get (v := .int (X1 70 2)) (q := 160) d_Mod_about_157 fk_Mod_69 fv_70_2 rfl ?_
                            exact j_iret d_Mod_about_160
                          · skip
                            refine j_tabOut (t := 161) d_Mod_about_6 (tab_out 12 (fun j hj => by rcases (show j = 0 ∨ j = 1 ∨ j = 2 ∨ j = 3 ∨ j = 4 ∨ j = 5 ∨ j = 6 ∨ j = 7 ∨ j = 8 ∨ j = 9 ∨ j = 10 ∨ j = 11 ∨ j = 12 by omega) with rfl | rfl | rfl | rfl | rfl | rfl | rfl | rfl | rfl | rfl | rfl | rfl | rfl <;> first | exact ne_toInt z6_0 | exact ne_toInt z6_1 | exact ne_toInt z6_2 | exact ne_toInt z6_3 | exact ne_toInt z6_4 | exact ne_toInt z6_5 | exact ne_toInt z6_6 | exact ne_toInt z6_7 | exact ne_toInt z6_8 | exact ne_toInt z6_9 | exact ne_toInt z6_10 | exact ne_toInt z6_11 | exact ne_toInt z6_12)) (by decide) ?_
                            refine j_bipush (v := -2) (q := 163) d_Mod_about_161 (by decide +kernel) rfl ?_
                            exact j_iret d_Mod_about_163
def f_Mod_pan (x1 : Int32) (x2 : Int32) (X : HI) (Y : HL) : Option Out :=
    lh (up X 70 0 (0 : Int32)) (fun X1 =>
    bi (f_Mod_noPan x1 X1 Y) (fun r4 X2 Y3 =>
    (if r4 = 0 then
    (if x2 = (0 : Int32) then
    gd (ixb x1 6) (
    (rI (X2 72 x1.toNatClampNeg) X2 Y3))
    else
    (if x2 = (1 : Int32) then
    gd (ixb x1 15) (
    (rI (X2 76 x1.toNatClampNeg) X2 Y3))
    else
    (if x2 = (2 : Int32) then
    gd (ixb ((6 : Int32) + x1) 15) (
    (rI (X2 76 ((6 : Int32) + x1).toNatClampNeg) X2 Y3))
    else
    (if x2 = (3 : Int32) then
    bi (f_Mod_brine 76 x1 X2 Y3) (fun r7 X5 Y6 =>
    (rI r7 X5 Y6))
    else
    (if x2 = (4 : Int32) then
    bi (f_Mod_crustOf 76 x1 X2 Y3) (fun r10 X8 Y9 =>
    (rI r10 X8 Y9))
    else
    (if x2 = (5 : Int32) then
    bi (f_Mod_room 76 x1 X2 Y3) (fun r13 X11 Y12 =>
    (rI r13 X11 Y12))
    else
    (rI (-2 : Int32) X2 Y3)))))))
    else
    (rI (-1 : Int32) X2 Y3))))
set_option maxRecDepth 4000 in
theorem c_Mod_pan {K : KK} (hK : kOK K) (x1 : Int32) (x2 : Int32) (X : HI) (Y : HL) : CT K y_Mod_pan prog_8_method_33_code 3 (some .int) rm_Mod_pan [.ref 70, .int x1, .int x2] X Y (f_Mod_pan x1 x2 X Y) := by
  refine ct_of hK (L := [some (.ref 70), some (.int x1), some (.int x2)]) (by decide) ⟨rfl, ⟨rfl, ⟨rfl, trivial⟩⟩⟩ (Nat.le_of_ble_eq_true rfl) ?_
  unfold f_Mod_pan
  refine j_aload_n (i := 0) (x := 70) (q := 1) d_Mod_pan_0 rfl rfl rfl ?_
  refine j_iconst (v := 0) (q := 2) d_Mod_pan_1 (by decide) rfl ?_
  refine j_putI (q := 5) d_Mod_pan_2 fp_Mod_56 fw_70_0 rfl (fun X1 => ?_)
  refine j_aload_n (i := 0) (x := 70) (q := 6) d_Mod_pan_5 rfl rfl rfl ?_
  refine j_iload_n (i := 1) (x := x1) (q := 7) d_Mod_pan_6 rfl rfl rfl ?_
  refine j_callVi (a := 70) (S := []) (q := 10) [.int x1] d_Mod_pan_7 mw_Mod_noPan mv_Mod_noPan ml_Mod_159 ob_70 rfl rfl (c_Mod_noPan hK x1 X1 Y) ⟨⟨rfl, rfl⟩, ⟨Nat.le_of_ble_eq_true rfl, Nat.le_of_ble_eq_true rfl⟩, ⟨Nat.le_refl 0, Nat.le_refl 0⟩⟩ (Nat.le_of_ble_eq_true rfl) rfl (fun r4 X2 Y3 => ?_)
  refine j_if_eq (t := 15) (q := 13) d_Mod_pan_10 (by decide) rfl ?_ ?_
  · refine j_iload_n (i := 2) (x := x2) (q := 16) d_Mod_pan_15 rfl rfl rfl ?_
    refine j_ite (fun z16_0 => ?_) (fun z16_0 => ?_)
    · refine j_tabIn (z := 0) (t := 56) (off := 40) d_Mod_pan_16 z16_0 (by decide) (by decide) (by decide) (by decide) ?_
      refine j_aload_n (i := 0) (x := 70) (q := 57) d_Mod_pan_56 rfl rfl rfl ?_
      refine j_get (v := .ref 72) (q := 60) d_Mod_pan_57 fk_Mod_13 fv_70_5 rfl ?_
      refine j_iload_n (i := 1) (x := x1) (q := 61) d_Mod_pan_60 rfl rfl rfl ?_
      refine j_iald (q := 62) d_Mod_pan_61 ai_72 rfl ?_
      exact j_iret d_Mod_pan_62
    · skip
      refine j_ite (fun z16_1 => ?_) (fun z16_1 => ?_)
      · refine j_tabIn (z := 1) (t := 63) (off := 47) d_Mod_pan_16 z16_1 (by decide) (by decide) (by decide) (by decide) ?_
        refine j_aload_n (i := 0) (x := 70) (q := 64) d_Mod_pan_63 rfl rfl rfl ?_
        refine j_get (v := .ref 76) (q := 67) d_Mod_pan_64 fk_Mod_25 fv_70_12 rfl ?_
        refine j_iload_n (i := 1) (x := x1) (q := 68) d_Mod_pan_67 rfl rfl rfl ?_
        refine j_iald (q := 69) d_Mod_pan_68 ai_76 rfl ?_
        exact j_iret d_Mod_pan_69
      · skip
        refine j_ite (fun z16_2 => ?_) (fun z16_2 => ?_)
        · refine j_tabIn (z := 2) (t := 70) (off := 54) d_Mod_pan_16 z16_2 (by decide) (by decide) (by decide) (by decide) ?_
          refine j_aload_n (i := 0) (x := 70) (q := 71) d_Mod_pan_70 rfl rfl rfl ?_
          refine j_get (v := .ref 76) (q := 74) d_Mod_pan_71 fk_Mod_25 fv_70_12 rfl ?_
          refine j_bipush (v := 6) (q := 76) d_Mod_pan_74 (by decide +kernel) rfl ?_
          refine j_iload_n (i := 1) (x := x1) (q := 77) d_Mod_pan_76 rfl rfl rfl ?_
          refine j_iadd (q := 78) d_Mod_pan_77 rfl ?_
          refine j_iald (q := 79) d_Mod_pan_78 ai_76 rfl ?_
          exact j_iret d_Mod_pan_79
        · skip
          refine j_ite (fun z16_3 => ?_) (fun z16_3 => ?_)
          · refine j_tabIn (z := 3) (t := 80) (off := 64) d_Mod_pan_16 z16_3 (by decide) (by decide) (by decide) (by decide) ?_
            refine j_aload_n (i := 0) (x := 70) (q := 81) d_Mod_pan_80 rfl rfl rfl ?_
            refine j_get (v := .ref 76) (q := 84) d_Mod_pan_81 fk_Mod_25 fv_70_12 rfl ?_
            refine j_iload_n (i := 1) (x := x1) (q := 85) d_Mod_pan_84 rfl rfl rfl ?_
            refine j_callSi (S := []) (q := 88) [.ref 76, .int x1] d_Mod_pan_85 mw_Mod_brine ms_Mod_brine ml_Mod_106 rfl rfl (c_Mod_brine hK 76 ai_76 x1 X2 Y3) ⟨⟨rfl, rfl⟩, ⟨Nat.le_of_ble_eq_true rfl, Nat.le_of_ble_eq_true rfl⟩, ⟨Nat.le_refl 0, Nat.le_refl 0⟩⟩ (Nat.le_of_ble_eq_true rfl) rfl (fun r7 X5 Y6 => ?_)
            exact j_iret d_Mod_pan_88
          · skip
            refine j_ite (fun z16_4 => ?_) (fun z16_4 => ?_)
            · refine j_tabIn (z := 4) (t := 89) (off := 73) d_Mod_pan_16 z16_4 (by decide) (by decide) (by decide) (by decide) ?_
              refine j_aload_n (i := 0) (x := 70) (q := 90) d_Mod_pan_89 rfl rfl rfl ?_
              refine j_get (v := .ref 76) (q := 93) d_Mod_pan_90 fk_Mod_25 fv_70_12 rfl ?_
              refine j_iload_n (i := 1) (x := x1) (q := 94) d_Mod_pan_93 rfl rfl rfl ?_
              refine j_callSi (S := []) (q := 97) [.ref 76, .int x1] d_Mod_pan_94 mw_Mod_crustOf ms_Mod_crustOf ml_Mod_110 rfl rfl (c_Mod_crustOf hK 76 ai_76 x1 X2 Y3) ⟨⟨rfl, rfl⟩, ⟨Nat.le_of_ble_eq_true rfl, Nat.le_of_ble_eq_true rfl⟩, ⟨Nat.le_refl 0, Nat.le_refl 0⟩⟩ (Nat.le_of_ble_eq_true rfl) rfl (fun r10 X8 Y9 => ?_)
              exact j_iret d_Mod_pan_97
            · skip
              refine j_ite (fun z16_5 => ?_) (fun z16_5 => ?_)
              · refine j_tabIn (z := 5) (t := 98) (off := 82) d_Mod_pan_16 z16_5 (by decide) (by decide) (by decide) (by decide) ?_
                refine j_aload_n (i := 0) (x := 70) (q := 99) d_Mod_pan_98 rfl rfl rfl ?_
                refine j_aload_n (i := 0) (x := 70) (q := 100) d_Mod_pan_99 rfl rfl rfl ?_
                refine j_get (v := .ref 76) (q := 103) d_Mod_pan_100 fk_Mod_25 fv_70_12 rfl ?_
                refine j_iload_n (i := 1) (x := x1) (q := 104) d_Mod_pan_103 rfl rfl rfl ?_
                refine j_callVi (a := 70) (S := []) (q := 107) [.ref 76, .int x1] d_Mod_pan_104 mw_Mod_room mv_Mod_room ml_Mod_121 ob_70 rfl rfl (c_Mod_room hK 76 ai_76 x1 X2 Y3) ⟨⟨rfl, rfl⟩, ⟨Nat.le_of_ble_eq_true rfl, Nat.le_of_ble_eq_true rfl⟩, ⟨Nat.le_refl 0, Nat.le_refl 0⟩⟩ (Nat.le_of_ble_eq_true rfl) rfl (fun r13 X11 Y12 => ?_)
                exact j_iret d_Mod_pan_107
              · skip
                refine j_tabOut (t := 108) d_Mod_pan_16 (tab_out 5 (fun j hj => by rcases (show j = 0 ∨ j = 1 ∨ j = 2 ∨ j = 3 ∨ j = 4 ∨ j = 5 by omega) with rfl | rfl | rfl | rfl | rfl | rfl <;> first | exact ne_toInt z16_0 | exact ne_toInt z16_1 | exact ne_toInt z16_2 | exact ne_toInt z16_3 | exact ne_toInt z16_4 | exact ne_toInt z16_5)) (by decide) ?_
                refine j_bipush (v := -2) (q := 110) d_Mod_pan_108 (by decide +kernel) rfl ?_
                exact j_iret d_Mod_pan_110
  · refine j_iconst (v := -1) (q := 14) d_Mod_pan_13 (by decide) rfl ?_
    exact j_iret d_Mod_pan_14
def l_Mod_note_51 (kx : Int32 → HI → HL → Option Out) : Nat → Int32 → HI → HL → Option Out
  | 0, _, _, _ => none
  | n + 1, m1, X, Y =>
    (if (15 : Int32) ≤ m1 then
    (kx m1 X Y)
    else
    gd (ixb m1 15) (
    wr (ixb (((15 : Int32) * (X 70 15)) + m1) 210) (up X 78 (((15 : Int32) * (X 70 15)) + m1).toNatClampNeg (X 76 m1.toNatClampNeg)) (fun X1 =>
    (l_Mod_note_51 kx n (m1 + (1 : Int32)) X1 Y))))
def b_Mod_note_49 (X : HI) (Y : HL) : Option Out :=
    (l_Mod_note_51 (fun w2 X3 Y4 =>
    lh (up X3 70 15 ((X3 70 15) + (1 : Int32))) (fun X5 =>
    (rV X5 Y4))) 256 (0 : Int32) X Y)
def l_Mod_note_11 (kx : Int32 → HI → HL → Option Out) : Nat → Int32 → HI → HL → Option Out
  | 0, _, _, _ => none
  | n + 1, m1, X, Y =>
    (if (195 : Int32) ≤ m1 then
    (kx m1 X Y)
    else
    gd (ixb (m1 + (15 : Int32)) 210) (
    wr (ixb m1 210) (up X 78 m1.toNatClampNeg (X 78 (m1 + (15 : Int32)).toNatClampNeg)) (fun X6 =>
    (l_Mod_note_11 kx n (m1 + (1 : Int32)) X6 Y))))
def f_Mod_note (X : HI) (Y : HL) : Option Out :=
    (if (X 70 15) = (14 : Int32) then
    (l_Mod_note_11 (fun w7 X8 Y9 =>
    lh (up X8 70 15 ((X8 70 15) - (1 : Int32))) (fun X10 =>
    (b_Mod_note_49 X10 Y9))) 256 (0 : Int32) X Y)
    else
    (b_Mod_note_49 X Y))
set_option maxRecDepth 4000 in
theorem jl_Mod_note_51 {K : KK} (hK : kOK K) (kx : Int32 → HI → HL → Option Out) (hkx : ∀ (m1 : Int32) (X : HI) (Y : HL), JO K "BrinePansModel" prog_8_method_34_code 2 none rm_Mod_note 0 0 (MZ K) 83 [some (.ref 70), none] [] X Y (kx m1 X Y)) : ∀ (n : Nat) (m1 : Int32) (X : HI) (Y : HL), JO K "BrinePansModel" prog_8_method_34_code 2 none rm_Mod_note 0 0 (MZ K) 51 [some (.ref 70), some (.int m1)] [] X Y (l_Mod_note_51 kx n m1 X Y) := by
  intro n
  induction n with
  | zero =>
    intro m1 X Y
    rw [l_Mod_note_51]
    exact j_none
  | succ n ih =>
    intro m1 X Y
    rw [l_Mod_note_51]
    refine j_iload_n (i := 1) (x := m1) (q := 52) d_Mod_note_51 rfl rfl rfl ?_
    refine j_bipush (v := 15) (q := 54) d_Mod_note_52 (by decide +kernel) rfl ?_
    refine j_icmp_ge (t := 83) (q := 57) d_Mod_note_54 (by decide) rfl ?_ ?_
    · refine j_sub (L' := [some (.ref 70), none]) ⟨rfl, trivial⟩ ?_
      exact hkx m1 X Y
    · refine j_aload_n (i := 0) (x := 70) (q := 58) d_Mod_note_57 rfl rfl rfl ?_
      refine j_get (v := .ref 78) (q := 61) d_Mod_note_58 fk_Mod_31 fv_70_14 rfl ?_
      refine j_bipush (v := 15) (q := 63) d_Mod_note_61 (by decide +kernel) rfl ?_
      refine j_aload_n (i := 0) (x := 70) (q := 64) d_Mod_note_63 rfl rfl rfl ?_
      refine j_get (v := .int (X 70 15)) (q := 67) d_Mod_note_64 fk_Mod_103 fv_70_15 rfl ?_
      refine j_imul (q := 68) d_Mod_note_67 rfl ?_
      refine j_iload_n (i := 1) (x := m1) (q := 69) d_Mod_note_68 rfl rfl rfl ?_
      refine j_iadd (q := 70) d_Mod_note_69 rfl ?_
      refine j_aload_n (i := 0) (x := 70) (q := 71) d_Mod_note_70 rfl rfl rfl ?_
      refine j_get (v := .ref 76) (q := 74) d_Mod_note_71 fk_Mod_25 fv_70_12 rfl ?_
      refine j_iload_n (i := 1) (x := m1) (q := 75) d_Mod_note_74 rfl rfl rfl ?_
      refine j_iald (q := 76) d_Mod_note_75 ai_76 rfl ?_
      refine j_iast (q := 77) d_Mod_note_76 ai_78 rfl (fun X1 => ?_)
      refine j_iinc (i := 1) (x := m1) (d := 1) (L' := [some (.ref 70), some (.int (m1 + (1 : Int32)))]) (q := 80) d_Mod_note_77 rfl (by decide) (by decide) rfl rfl rfl ?_
      refine j_goto (q := 51) d_Mod_note_80 (by decide) ?_
      refine j_sub (L' := [some (.ref 70), some (.int (m1 + (1 : Int32)))]) ⟨rfl, ⟨rfl, trivial⟩⟩ ?_
      exact ih (m1 + (1 : Int32)) X1 Y
set_option maxRecDepth 4000 in
theorem jb_Mod_note_49 {K : KK} (hK : kOK K) (X : HI) (Y : HL) : JO K "BrinePansModel" prog_8_method_34_code 2 none rm_Mod_note 0 0 (MZ K) 49 [some (.ref 70), none] [] X Y (b_Mod_note_49 X Y) := by
  unfold b_Mod_note_49
  refine j_iconst (v := 0) (q := 50) d_Mod_note_49 (by decide) rfl ?_
  refine j_istore_n (i := 1) (L' := [some (.ref 70), some (.int (0 : Int32))]) (q := 51) d_Mod_note_50 rfl (by decide) rfl rfl rfl ?_
  refine j_sub (L' := [some (.ref 70), some (.int (0 : Int32))]) ⟨rfl, ⟨rfl, trivial⟩⟩ ?_
  refine jl_Mod_note_51 hK _ (fun w2 X3 Y4 => ?_) 256 (0 : Int32) X Y
  refine j_aload_n (i := 0) (x := 70) (q := 84) d_Mod_note_83 rfl rfl rfl ?_
  refine j_dup (q := 85) d_Mod_note_84 rfl rfl ?_
  refine j_get (v := .int (X3 70 15)) (q := 88) d_Mod_note_85 fk_Mod_103 fv_70_15 rfl ?_
  refine j_iconst (v := 1) (q := 89) d_Mod_note_88 (by decide) rfl ?_
  refine j_iadd (q := 90) d_Mod_note_89 rfl ?_
  refine j_putI (q := 93) d_Mod_note_90 fp_Mod_103 fw_70_15 rfl (fun X5 => ?_)
  exact j_vret d_Mod_note_93
set_option maxRecDepth 4000 in
theorem jl_Mod_note_11 {K : KK} (hK : kOK K) (kx : Int32 → HI → HL → Option Out) (hkx : ∀ (m1 : Int32) (X : HI) (Y : HL), JO K "BrinePansModel" prog_8_method_34_code 2 none rm_Mod_note 0 0 (MZ K) 39 [some (.ref 70), none] [] X Y (kx m1 X Y)) : ∀ (n : Nat) (m1 : Int32) (X : HI) (Y : HL), JO K "BrinePansModel" prog_8_method_34_code 2 none rm_Mod_note 0 0 (MZ K) 11 [some (.ref 70), some (.int m1)] [] X Y (l_Mod_note_11 kx n m1 X Y) := by
  intro n
  induction n with
  | zero =>
    intro m1 X Y
    rw [l_Mod_note_11]
    exact j_none
  | succ n ih =>
    intro m1 X Y
    rw [l_Mod_note_11]
    refine j_iload_n (i := 1) (x := m1) (q := 12) d_Mod_note_11 rfl rfl rfl ?_
    refine j_sipush (v := 195) (q := 15) d_Mod_note_12 (by decide +kernel) rfl ?_
    refine j_icmp_ge (t := 39) (q := 18) d_Mod_note_15 (by decide) rfl ?_ ?_
    · refine j_sub (L' := [some (.ref 70), none]) ⟨rfl, trivial⟩ ?_
      exact hkx m1 X Y
    · refine j_aload_n (i := 0) (x := 70) (q := 19) d_Mod_note_18 rfl rfl rfl ?_
      refine j_get (v := .ref 78) (q := 22) d_Mod_note_19 fk_Mod_31 fv_70_14 rfl ?_
      refine j_iload_n (i := 1) (x := m1) (q := 23) d_Mod_note_22 rfl rfl rfl ?_
      refine j_aload_n (i := 0) (x := 70) (q := 24) d_Mod_note_23 rfl rfl rfl ?_
      refine j_get (v := .ref 78) (q := 27) d_Mod_note_24 fk_Mod_31 fv_70_14 rfl ?_
      refine j_iload_n (i := 1) (x := m1) (q := 28) d_Mod_note_27 rfl rfl rfl ?_
      refine j_bipush (v := 15) (q := 30) d_Mod_note_28 (by decide +kernel) rfl ?_
      refine j_iadd (q := 31) d_Mod_note_30 rfl ?_
      refine j_iald (q := 32) d_Mod_note_31 ai_78 rfl ?_
      refine j_iast (q := 33) d_Mod_note_32 ai_78 rfl (fun X6 => ?_)
      refine j_iinc (i := 1) (x := m1) (d := 1) (L' := [some (.ref 70), some (.int (m1 + (1 : Int32)))]) (q := 36) d_Mod_note_33 rfl (by decide) (by decide) rfl rfl rfl ?_
      refine j_goto (q := 11) d_Mod_note_36 (by decide) ?_
      refine j_sub (L' := [some (.ref 70), some (.int (m1 + (1 : Int32)))]) ⟨rfl, ⟨rfl, trivial⟩⟩ ?_
      exact ih (m1 + (1 : Int32)) X6 Y
set_option maxRecDepth 4000 in
theorem c_Mod_note {K : KK} (hK : kOK K) (X : HI) (Y : HL) : CT K y_Mod_note prog_8_method_34_code 2 none rm_Mod_note [.ref 70] X Y (f_Mod_note X Y) := by
  refine ct_of hK (L := [some (.ref 70), none]) (by decide) ⟨rfl, trivial⟩ (Nat.le_of_ble_eq_true rfl) ?_
  unfold f_Mod_note
  refine j_aload_n (i := 0) (x := 70) (q := 1) d_Mod_note_0 rfl rfl rfl ?_
  refine j_get (v := .int (X 70 15)) (q := 4) d_Mod_note_1 fk_Mod_103 fv_70_15 rfl ?_
  refine j_bipush (v := 14) (q := 6) d_Mod_note_4 (by decide +kernel) rfl ?_
  refine j_icmp_ne (t := 49) (q := 9) d_Mod_note_6 (by decide) rfl ?_ ?_
  · refine j_sub (L' := [some (.ref 70), none]) ⟨rfl, trivial⟩ ?_
    exact jb_Mod_note_49 hK X Y
  · refine j_iconst (v := 0) (q := 10) d_Mod_note_9 (by decide) rfl ?_
    refine j_istore_n (i := 1) (L' := [some (.ref 70), some (.int (0 : Int32))]) (q := 11) d_Mod_note_10 rfl (by decide) rfl rfl rfl ?_
    refine j_sub (L' := [some (.ref 70), some (.int (0 : Int32))]) ⟨rfl, ⟨rfl, trivial⟩⟩ ?_
    refine jl_Mod_note_11 hK _ (fun w7 X8 Y9 => ?_) 256 (0 : Int32) X Y
    refine j_aload_n (i := 0) (x := 70) (q := 40) d_Mod_note_39 rfl rfl rfl ?_
    refine j_dup (q := 41) d_Mod_note_40 rfl rfl ?_
    refine j_get (v := .int (X8 70 15)) (q := 44) d_Mod_note_41 fk_Mod_103 fv_70_15 rfl ?_
    refine j_iconst (v := 1) (q := 45) d_Mod_note_44 (by decide) rfl ?_
    refine j_isub (q := 46) d_Mod_note_45 rfl ?_
    refine j_putI (q := 49) d_Mod_note_46 fp_Mod_103 fw_70_15 rfl (fun X10 => ?_)
    refine j_sub (L' := [some (.ref 70), none]) ⟨rfl, trivial⟩ ?_
    exact jb_Mod_note_49 hK X10 Y9
def f_Mod_day (X : HI) (Y : HL) : Option Out :=
    lh (up X 70 0 (0 : Int32)) (fun X1 =>
    bv (f_Mod_note X1 Y) (fun X2 Y3 =>
    bv (f_Mod_goDay 76 (1 : Int32) X2 Y3) (fun X4 Y5 =>
    bi (f_Mod_crustOfAll 76 X4 Y5) (fun r8 X6 Y7 =>
    (rI r8 X6 Y7)))))
set_option maxRecDepth 4000 in
theorem c_Mod_day {K : KK} (hK : kOK K) (X : HI) (Y : HL) : CT K y_Mod_day prog_8_method_35_code 1 (some .int) rm_Mod_day [.ref 70] X Y (f_Mod_day X Y) := by
  refine ct_of hK (L := [some (.ref 70)]) (by decide) ⟨rfl, trivial⟩ (Nat.le_of_ble_eq_true rfl) ?_
  unfold f_Mod_day
  refine j_aload_n (i := 0) (x := 70) (q := 1) d_Mod_day_0 rfl rfl rfl ?_
  refine j_iconst (v := 0) (q := 2) d_Mod_day_1 (by decide) rfl ?_
  refine j_putI (q := 5) d_Mod_day_2 fp_Mod_56 fw_70_0 rfl (fun X1 => ?_)
  refine j_aload_n (i := 0) (x := 70) (q := 6) d_Mod_day_5 rfl rfl rfl ?_
  refine j_callVv (a := 70) (S := []) (q := 9) [] d_Mod_day_6 mw_Mod_note mv_Mod_note ml_Mod_163 ob_70 rfl rfl (c_Mod_note hK X1 Y) ⟨⟨rfl, rfl⟩, ⟨Nat.le_of_ble_eq_true rfl, Nat.le_of_ble_eq_true rfl⟩, ⟨Nat.le_refl 0, Nat.le_refl 0⟩⟩ (Nat.le_of_ble_eq_true rfl) rfl (fun X2 Y3 => ?_)
  refine j_aload_n (i := 0) (x := 70) (q := 10) d_Mod_day_9 rfl rfl rfl ?_
  refine j_aload_n (i := 0) (x := 70) (q := 11) d_Mod_day_10 rfl rfl rfl ?_
  refine j_get (v := .ref 76) (q := 14) d_Mod_day_11 fk_Mod_25 fv_70_12 rfl ?_
  refine j_iconst (v := 1) (q := 15) d_Mod_day_14 (by decide) rfl ?_
  refine j_callVv (a := 70) (S := []) (q := 18) [.ref 76, .int (1 : Int32)] d_Mod_day_15 mw_Mod_goDay mv_Mod_goDay ml_Mod_138 ob_70 rfl rfl (c_Mod_goDay hK 76 ai_76 (1 : Int32) X2 Y3) ⟨⟨rfl, rfl⟩, ⟨Nat.le_of_ble_eq_true rfl, Nat.le_of_ble_eq_true rfl⟩, ⟨Nat.le_refl 0, Nat.le_refl 0⟩⟩ (Nat.le_of_ble_eq_true rfl) rfl (fun X4 Y5 => ?_)
  refine j_aload_n (i := 0) (x := 70) (q := 19) d_Mod_day_18 rfl rfl rfl ?_
  refine j_aload_n (i := 0) (x := 70) (q := 20) d_Mod_day_19 rfl rfl rfl ?_
  refine j_get (v := .ref 76) (q := 23) d_Mod_day_20 fk_Mod_25 fv_70_12 rfl ?_
  refine j_callVi (a := 70) (S := []) (q := 26) [.ref 76] d_Mod_day_23 mw_Mod_crustOfAll mv_Mod_crustOfAll ml_Mod_150 ob_70 rfl rfl (c_Mod_crustOfAll hK 76 ai_76 X4 Y5) ⟨⟨rfl, rfl⟩, ⟨Nat.le_of_ble_eq_true rfl, Nat.le_of_ble_eq_true rfl⟩, ⟨Nat.le_refl 0, Nat.le_refl 0⟩⟩ (Nat.le_of_ble_eq_true rfl) rfl (fun r8 X6 Y7 => ?_)
  exact j_iret d_Mod_day_26
def f_Mod_goSea (a : Nat) (x1 : Int32) (X : HI) (Y : HL) : Option Out :=
    gd (ixb (0 : Int32) 15) (
    wr (ixb (0 : Int32) 15) (up X a (0 : Int32).toNatClampNeg ((X a (0 : Int32).toNatClampNeg) + x1)) (fun X1 =>
    bv (f_Mod_salted a (0 : Int32) ((2 : Int32) * x1) X1 Y) (fun X2 Y3 =>
    (rV X2 Y3))))
set_option maxRecDepth 4000 in
theorem c_Mod_goSea {K : KK} (hK : kOK K) (a : Nat) (ha : AI a 15) (x1 : Int32) (X : HI) (Y : HL) : CT K y_Mod_goSea prog_8_method_36_code 2 none rm_Mod_goSea [.ref a, .int x1] X Y (f_Mod_goSea a x1 X Y) := by
  refine ct_of hK (L := [some (.ref a), some (.int x1)]) (by decide) ⟨rfl, ⟨rfl, trivial⟩⟩ (Nat.le_of_ble_eq_true rfl) ?_
  unfold f_Mod_goSea
  refine j_aload_n (i := 0) (x := a) (q := 1) d_Mod_goSea_0 rfl rfl rfl ?_
  refine j_iconst (v := 0) (q := 2) d_Mod_goSea_1 (by decide) rfl ?_
  refine j_dup2 (q := 3) d_Mod_goSea_2 rfl rfl rfl ?_
  refine j_iald (q := 4) d_Mod_goSea_3 ha rfl ?_
  refine j_iload_n (i := 1) (x := x1) (q := 5) d_Mod_goSea_4 rfl rfl rfl ?_
  refine j_iadd (q := 6) d_Mod_goSea_5 rfl ?_
  refine j_iast (q := 7) d_Mod_goSea_6 ha rfl (fun X1 => ?_)
  refine j_aload_n (i := 0) (x := a) (q := 8) d_Mod_goSea_7 rfl rfl rfl ?_
  refine j_iconst (v := 0) (q := 9) d_Mod_goSea_8 (by decide) rfl ?_
  refine j_iconst (v := 2) (q := 10) d_Mod_goSea_9 (by decide) rfl ?_
  refine j_iload_n (i := 1) (x := x1) (q := 11) d_Mod_goSea_10 rfl rfl rfl ?_
  refine j_imul (q := 12) d_Mod_goSea_11 rfl ?_
  refine j_callSv (S := []) (q := 15) [.ref a, .int (0 : Int32), .int ((2 : Int32) * x1)] d_Mod_goSea_12 mw_Mod_salted ms_Mod_salted ml_Mod_117 rfl rfl (c_Mod_salted hK a ha (0 : Int32) ((2 : Int32) * x1) X1 Y) ⟨⟨rfl, rfl⟩, ⟨Nat.le_of_ble_eq_true rfl, Nat.le_of_ble_eq_true rfl⟩, ⟨Nat.le_refl 0, Nat.le_refl 0⟩⟩ (Nat.le_of_ble_eq_true rfl) rfl (fun X2 Y3 => ?_)
  exact j_vret d_Mod_goSea_15
def f_Mod_sea (x1 : Int32) (X : HI) (Y : HL) : Option Out :=
    lh (up X 70 0 (0 : Int32)) (fun X1 =>
    (if (X1 70 4) = 0 then
    (rI (-1 : Int32) X1 Y)
    else
    bi (f_Mod_in (x1.toInt64) (1 : Int64) (9 : Int64) X1 Y) (fun r4 X2 Y3 =>
    (if r4 = 0 then
    (rI (-2 : Int32) X2 Y3)
    else
    bi (f_Mod_room 76 (0 : Int32) X2 Y3) (fun r7 X5 Y6 =>
    (if x1 ≤ r7 then
    bv (f_Mod_note X5 Y6) (fun X8 Y9 =>
    bv (f_Mod_goSea 76 x1 X8 Y9) (fun X10 Y11 =>
    gd (ixb (0 : Int32) 15) (
    (rI (X10 76 (0 : Int32).toNatClampNeg) X10 Y11))))
    else
    (rI (-4 : Int32) X5 Y6)))))))
set_option maxRecDepth 4000 in
theorem c_Mod_sea {K : KK} (hK : kOK K) (x1 : Int32) (X : HI) (Y : HL) : CT K y_Mod_sea prog_8_method_37_code 2 (some .int) rm_Mod_sea [.ref 70, .int x1] X Y (f_Mod_sea x1 X Y) := by
  refine ct_of hK (L := [some (.ref 70), some (.int x1)]) (by decide) ⟨rfl, ⟨rfl, trivial⟩⟩ (Nat.le_of_ble_eq_true rfl) ?_
  unfold f_Mod_sea
  refine j_aload_n (i := 0) (x := 70) (q := 1) d_Mod_sea_0 rfl rfl rfl ?_
  refine j_iconst (v := 0) (q := 2) d_Mod_sea_1 (by decide) rfl ?_
  refine j_putI (q := 5) d_Mod_sea_2 fp_Mod_56 fw_70_0 rfl (fun X1 => ?_)
  refine j_aload_n (i := 0) (x := 70) (q := 6) d_Mod_sea_5 rfl rfl rfl ?_
  refine j_get (v := .int (X1 70 4)) (q := 9) d_Mod_sea_6 fk_Mod_60 fv_70_4 rfl ?_
  refine j_if_ne (t := 14) (q := 12) d_Mod_sea_9 (by decide) rfl ?_ ?_
  · refine j_iload_n (i := 1) (x := x1) (q := 15) d_Mod_sea_14 rfl rfl rfl ?_
    refine j_i2l (q := 16) d_Mod_sea_15 rfl ?_
    refine j_lconst (v := 1) (q := 17) d_Mod_sea_16 (by decide) rfl ?_
    refine j_ldc2 (v := 9) (q := 20) d_Mod_sea_17 (gw_t 747 (by decide +kernel) (by decide +kernel)) rfl ?_
    refine j_callSi (S := []) (q := 23) [.long x1.toInt64, .long (1 : Int64), .long (9 : Int64)] d_Mod_sea_20 mw_Mod_in ms_Mod_in ml_Mod_63 rfl rfl (c_Mod_in hK (x1.toInt64) (1 : Int64) (9 : Int64) X1 Y) ⟨⟨rfl, rfl⟩, ⟨Nat.le_of_ble_eq_true rfl, Nat.le_of_ble_eq_true rfl⟩, ⟨Nat.le_refl 0, Nat.le_refl 0⟩⟩ (Nat.le_of_ble_eq_true rfl) rfl (fun r4 X2 Y3 => ?_)
    refine j_if_ne (t := 29) (q := 26) d_Mod_sea_23 (by decide) rfl ?_ ?_
    · refine j_aload_n (i := 0) (x := 70) (q := 30) d_Mod_sea_29 rfl rfl rfl ?_
      refine j_aload_n (i := 0) (x := 70) (q := 31) d_Mod_sea_30 rfl rfl rfl ?_
      refine j_get (v := .ref 76) (q := 34) d_Mod_sea_31 fk_Mod_25 fv_70_12 rfl ?_
      refine j_iconst (v := 0) (q := 35) d_Mod_sea_34 (by decide) rfl ?_
      refine j_callVi (a := 70) (S := []) (q := 38) [.ref 76, .int (0 : Int32)] d_Mod_sea_35 mw_Mod_room mv_Mod_room ml_Mod_121 ob_70 rfl rfl (c_Mod_room hK 76 ai_76 (0 : Int32) X2 Y3) ⟨⟨rfl, rfl⟩, ⟨Nat.le_of_ble_eq_true rfl, Nat.le_of_ble_eq_true rfl⟩, ⟨Nat.le_refl 0, Nat.le_refl 0⟩⟩ (Nat.le_of_ble_eq_true rfl) rfl (fun r7 X5 Y6 => ?_)
      refine j_iload_n (i := 1) (x := x1) (q := 39) d_Mod_sea_38 rfl rfl rfl ?_
      refine j_icmp_ge (t := 45) (q := 42) d_Mod_sea_39 (by decide) rfl ?_ ?_
      · refine j_aload_n (i := 0) (x := 70) (q := 46) d_Mod_sea_45 rfl rfl rfl ?_
        refine j_callVv (a := 70) (S := []) (q := 49) [] d_Mod_sea_46 mw_Mod_note mv_Mod_note ml_Mod_163 ob_70 rfl rfl (c_Mod_note hK X5 Y6) ⟨⟨rfl, rfl⟩, ⟨Nat.le_of_ble_eq_true rfl, Nat.le_of_ble_eq_true rfl⟩, ⟨Nat.le_refl 0, Nat.le_refl 0⟩⟩ (Nat.le_of_ble_eq_true rfl) rfl (fun X8 Y9 => ?_)
        refine j_aload_n (i := 0) (x := 70) (q := 50) d_Mod_sea_49 rfl rfl rfl ?_
        refine j_get (v := .ref 76) (q := 53) d_Mod_sea_50 fk_Mod_25 fv_70_12 rfl ?_
        refine j_iload_n (i := 1) (x := x1) (q := 54) d_Mod_sea_53 rfl rfl rfl ?_
        refine j_callSv (S := []) (q := 57) [.ref 76, .int x1] d_Mod_sea_54 mw_Mod_goSea ms_Mod_goSea ml_Mod_168 rfl rfl (c_Mod_goSea hK 76 ai_76 x1 X8 Y9) ⟨⟨rfl, rfl⟩, ⟨Nat.le_of_ble_eq_true rfl, Nat.le_of_ble_eq_true rfl⟩, ⟨Nat.le_refl 0, Nat.le_refl 0⟩⟩ (Nat.le_of_ble_eq_true rfl) rfl (fun X10 Y11 => ?_)
        refine j_aload_n (i := 0) (x := 70) (q := 58) d_Mod_sea_57 rfl rfl rfl ?_
        refine j_get (v := .ref 76) (q := 61) d_Mod_sea_58 fk_Mod_25 fv_70_12 rfl ?_
        refine j_iconst (v := 0) (q := 62) d_Mod_sea_61 (by decide) rfl ?_
        refine j_iald (q := 63) d_Mod_sea_62 ai_76 rfl ?_
        exact j_iret d_Mod_sea_63
      · refine j_bipush (v := -4) (q := 44) d_Mod_sea_42 (by decide +kernel) rfl ?_
        exact j_iret d_Mod_sea_44
    · refine j_bipush (v := -2) (q := 28) d_Mod_sea_26 (by decide +kernel) rfl ?_
      exact j_iret d_Mod_sea_28
  · refine j_iconst (v := -1) (q := 13) d_Mod_sea_12 (by decide) rfl ?_
    exact j_iret d_Mod_sea_13
def f_Mod_let (x1 : Int32) (x2 : Int32) (X : HI) (Y : HL) : Option Out :=
    lh (up X 70 0 (0 : Int32)) (fun X1 =>
    bi (f_Mod_noGate x1 X1 Y) (fun r4 X2 Y3 =>
    (if r4 = 0 then
    bi (f_Mod_in (x2.toInt64) (1 : Int64) (9 : Int64) X2 Y3) (fun r7 X5 Y6 =>
    (if r7 = 0 then
    (rI (-2 : Int32) X5 Y6)
    else
    gd (ixb x1 15) (
    (if x2 ≤ (X5 76 x1.toNatClampNeg) then
    bi (f_Mod_room 76 (x1 + (1 : Int32)) X5 Y6) (fun r10 X8 Y9 =>
    (if x2 ≤ r10 then
    bv (f_Mod_note X8 Y9) (fun X11 Y12 =>
    bi (f_Mod_goLet 76 x1 x2 X11 Y12) (fun r15 X13 Y14 =>
    (rI r15 X13 Y14)))
    else
    (rI (-4 : Int32) X8 Y9)))
    else
    (rI (-3 : Int32) X5 Y6)))))
    else
    (rI (-1 : Int32) X2 Y3))))
set_option maxRecDepth 4000 in
theorem c_Mod_let {K : KK} (hK : kOK K) (x1 : Int32) (x2 : Int32) (X : HI) (Y : HL) : CT K y_Mod_let prog_8_method_38_code 3 (some .int) rm_Mod_let [.ref 70, .int x1, .int x2] X Y (f_Mod_let x1 x2 X Y) := by
  refine ct_of hK (L := [some (.ref 70), some (.int x1), some (.int x2)]) (by decide) ⟨rfl, ⟨rfl, ⟨rfl, trivial⟩⟩⟩ (Nat.le_of_ble_eq_true rfl) ?_
  unfold f_Mod_let
  refine j_aload_n (i := 0) (x := 70) (q := 1) d_Mod_let_0 rfl rfl rfl ?_
  refine j_iconst (v := 0) (q := 2) d_Mod_let_1 (by decide) rfl ?_
  refine j_putI (q := 5) d_Mod_let_2 fp_Mod_56 fw_70_0 rfl (fun X1 => ?_)
  refine j_aload_n (i := 0) (x := 70) (q := 6) d_Mod_let_5 rfl rfl rfl ?_
  refine j_iload_n (i := 1) (x := x1) (q := 7) d_Mod_let_6 rfl rfl rfl ?_
  refine j_callVi (a := 70) (S := []) (q := 10) [.int x1] d_Mod_let_7 mw_Mod_noGate mv_Mod_noGate ml_Mod_172 ob_70 rfl rfl (c_Mod_noGate hK x1 X1 Y) ⟨⟨rfl, rfl⟩, ⟨Nat.le_of_ble_eq_true rfl, Nat.le_of_ble_eq_true rfl⟩, ⟨Nat.le_refl 0, Nat.le_refl 0⟩⟩ (Nat.le_of_ble_eq_true rfl) rfl (fun r4 X2 Y3 => ?_)
  refine j_if_eq (t := 15) (q := 13) d_Mod_let_10 (by decide) rfl ?_ ?_
  · refine j_iload_n (i := 2) (x := x2) (q := 16) d_Mod_let_15 rfl rfl rfl ?_
    refine j_i2l (q := 17) d_Mod_let_16 rfl ?_
    refine j_lconst (v := 1) (q := 18) d_Mod_let_17 (by decide) rfl ?_
    refine j_ldc2 (v := 9) (q := 21) d_Mod_let_18 (gw_t 747 (by decide +kernel) (by decide +kernel)) rfl ?_
    refine j_callSi (S := []) (q := 24) [.long x2.toInt64, .long (1 : Int64), .long (9 : Int64)] d_Mod_let_21 mw_Mod_in ms_Mod_in ml_Mod_63 rfl rfl (c_Mod_in hK (x2.toInt64) (1 : Int64) (9 : Int64) X2 Y3) ⟨⟨rfl, rfl⟩, ⟨Nat.le_of_ble_eq_true rfl, Nat.le_of_ble_eq_true rfl⟩, ⟨Nat.le_refl 0, Nat.le_refl 0⟩⟩ (Nat.le_of_ble_eq_true rfl) rfl (fun r7 X5 Y6 => ?_)
    refine j_if_ne (t := 30) (q := 27) d_Mod_let_24 (by decide) rfl ?_ ?_
    · refine j_aload_n (i := 0) (x := 70) (q := 31) d_Mod_let_30 rfl rfl rfl ?_
      refine j_get (v := .ref 76) (q := 34) d_Mod_let_31 fk_Mod_25 fv_70_12 rfl ?_
      refine j_iload_n (i := 1) (x := x1) (q := 35) d_Mod_let_34 rfl rfl rfl ?_
      refine j_iald (q := 36) d_Mod_let_35 ai_76 rfl ?_
      refine j_iload_n (i := 2) (x := x2) (q := 37) d_Mod_let_36 rfl rfl rfl ?_
      refine j_icmp_ge (t := 43) (q := 40) d_Mod_let_37 (by decide) rfl ?_ ?_
      · refine j_aload_n (i := 0) (x := 70) (q := 44) d_Mod_let_43 rfl rfl rfl ?_
        refine j_aload_n (i := 0) (x := 70) (q := 45) d_Mod_let_44 rfl rfl rfl ?_
        refine j_get (v := .ref 76) (q := 48) d_Mod_let_45 fk_Mod_25 fv_70_12 rfl ?_
        refine j_iload_n (i := 1) (x := x1) (q := 49) d_Mod_let_48 rfl rfl rfl ?_
        refine j_iconst (v := 1) (q := 50) d_Mod_let_49 (by decide) rfl ?_
        refine j_iadd (q := 51) d_Mod_let_50 rfl ?_
        refine j_callVi (a := 70) (S := []) (q := 54) [.ref 76, .int (x1 + (1 : Int32))] d_Mod_let_51 mw_Mod_room mv_Mod_room ml_Mod_121 ob_70 rfl rfl (c_Mod_room hK 76 ai_76 (x1 + (1 : Int32)) X5 Y6) ⟨⟨rfl, rfl⟩, ⟨Nat.le_of_ble_eq_true rfl, Nat.le_of_ble_eq_true rfl⟩, ⟨Nat.le_refl 0, Nat.le_refl 0⟩⟩ (Nat.le_of_ble_eq_true rfl) rfl (fun r10 X8 Y9 => ?_)
        refine j_iload_n (i := 2) (x := x2) (q := 55) d_Mod_let_54 rfl rfl rfl ?_
        refine j_icmp_ge (t := 61) (q := 58) d_Mod_let_55 (by decide) rfl ?_ ?_
        · refine j_aload_n (i := 0) (x := 70) (q := 62) d_Mod_let_61 rfl rfl rfl ?_
          refine j_callVv (a := 70) (S := []) (q := 65) [] d_Mod_let_62 mw_Mod_note mv_Mod_note ml_Mod_163 ob_70 rfl rfl (c_Mod_note hK X8 Y9) ⟨⟨rfl, rfl⟩, ⟨Nat.le_of_ble_eq_true rfl, Nat.le_of_ble_eq_true rfl⟩, ⟨Nat.le_refl 0, Nat.le_refl 0⟩⟩ (Nat.le_of_ble_eq_true rfl) rfl (fun X11 Y12 => ?_)
          refine j_aload_n (i := 0) (x := 70) (q := 66) d_Mod_let_65 rfl rfl rfl ?_
          refine j_get (v := .ref 76) (q := 69) d_Mod_let_66 fk_Mod_25 fv_70_12 rfl ?_
          refine j_iload_n (i := 1) (x := x1) (q := 70) d_Mod_let_69 rfl rfl rfl ?_
          refine j_iload_n (i := 2) (x := x2) (q := 71) d_Mod_let_70 rfl rfl rfl ?_
          refine j_callSi (S := []) (q := 74) [.ref 76, .int x1, .int x2] d_Mod_let_71 mw_Mod_goLet ms_Mod_goLet ml_Mod_128 rfl rfl (c_Mod_goLet hK 76 ai_76 x1 x2 X11 Y12) ⟨⟨rfl, rfl⟩, ⟨Nat.le_of_ble_eq_true rfl, Nat.le_of_ble_eq_true rfl⟩, ⟨Nat.le_refl 0, Nat.le_refl 0⟩⟩ (Nat.le_of_ble_eq_true rfl) rfl (fun r15 X13 Y14 => ?_)
          exact j_iret d_Mod_let_74
        · refine j_bipush (v := -4) (q := 60) d_Mod_let_58 (by decide +kernel) rfl ?_
          exact j_iret d_Mod_let_60
      · refine j_bipush (v := -3) (q := 42) d_Mod_let_40 (by decide +kernel) rfl ?_
        exact j_iret d_Mod_let_42
    · refine j_bipush (v := -2) (q := 29) d_Mod_let_27 (by decide +kernel) rfl ?_
      exact j_iret d_Mod_let_29
  · refine j_iconst (v := -1) (q := 14) d_Mod_let_13 (by decide) rfl ?_
    exact j_iret d_Mod_let_14
def f_Mod_turn (x1 : Int32) (X : HI) (Y : HL) : Option Out :=
    lh (up X 70 0 (0 : Int32)) (fun X1 =>
    bi (f_Mod_noGate x1 X1 Y) (fun r4 X2 Y3 =>
    (if r4 = 0 then
    bv (f_Mod_note X2 Y3) (fun X5 Y6 =>
    gd (ixb (12 : Int32) 15) (
    wr (ixb (12 : Int32) 15) (up X5 76 (12 : Int32).toNatClampNeg ((X5 76 (12 : Int32).toNatClampNeg) ^^^ ((1 : Int32) <<< (x1 &&& 31)))) (fun X7 =>
    gd (ixb (12 : Int32) 15) (
    (rI (((X7 76 (12 : Int32).toNatClampNeg) >>> (x1 &&& 31)) &&& (1 : Int32)) X7 Y6)))))
    else
    (rI (-1 : Int32) X2 Y3))))
set_option maxRecDepth 4000 in
theorem c_Mod_turn {K : KK} (hK : kOK K) (x1 : Int32) (X : HI) (Y : HL) : CT K y_Mod_turn prog_8_method_39_code 2 (some .int) rm_Mod_turn [.ref 70, .int x1] X Y (f_Mod_turn x1 X Y) := by
  refine ct_of hK (L := [some (.ref 70), some (.int x1)]) (by decide) ⟨rfl, ⟨rfl, trivial⟩⟩ (Nat.le_of_ble_eq_true rfl) ?_
  unfold f_Mod_turn
  refine j_aload_n (i := 0) (x := 70) (q := 1) d_Mod_turn_0 rfl rfl rfl ?_
  refine j_iconst (v := 0) (q := 2) d_Mod_turn_1 (by decide) rfl ?_
  refine j_putI (q := 5) d_Mod_turn_2 fp_Mod_56 fw_70_0 rfl (fun X1 => ?_)
  refine j_aload_n (i := 0) (x := 70) (q := 6) d_Mod_turn_5 rfl rfl rfl ?_
  refine j_iload_n (i := 1) (x := x1) (q := 7) d_Mod_turn_6 rfl rfl rfl ?_
  refine j_callVi (a := 70) (S := []) (q := 10) [.int x1] d_Mod_turn_7 mw_Mod_noGate mv_Mod_noGate ml_Mod_172 ob_70 rfl rfl (c_Mod_noGate hK x1 X1 Y) ⟨⟨rfl, rfl⟩, ⟨Nat.le_of_ble_eq_true rfl, Nat.le_of_ble_eq_true rfl⟩, ⟨Nat.le_refl 0, Nat.le_refl 0⟩⟩ (Nat.le_of_ble_eq_true rfl) rfl (fun r4 X2 Y3 => ?_)
  refine j_if_eq (t := 15) (q := 13) d_Mod_turn_10 (by decide) rfl ?_ ?_
  · refine j_aload_n (i := 0) (x := 70) (q := 16) d_Mod_turn_15 rfl rfl rfl ?_
    refine j_callVv (a := 70) (S := []) (q := 19) [] d_Mod_turn_16 mw_Mod_note mv_Mod_note ml_Mod_163 ob_70 rfl rfl (c_Mod_note hK X2 Y3) ⟨⟨rfl, rfl⟩, ⟨Nat.le_of_ble_eq_true rfl, Nat.le_of_ble_eq_true rfl⟩, ⟨Nat.le_refl 0, Nat.le_refl 0⟩⟩ (Nat.le_of_ble_eq_true rfl) rfl (fun X5 Y6 => ?_)
    refine j_aload_n (i := 0) (x := 70) (q := 20) d_Mod_turn_19 rfl rfl rfl ?_
    refine j_get (v := .ref 76) (q := 23) d_Mod_turn_20 fk_Mod_25 fv_70_12 rfl ?_
    refine j_bipush (v := 12) (q := 25) d_Mod_turn_23 (by decide +kernel) rfl ?_
    refine j_dup2 (q := 26) d_Mod_turn_25 rfl rfl rfl ?_
    refine j_iald (q := 27) d_Mod_turn_26 ai_76 rfl ?_
    refine j_iconst (v := 1) (q := 28) d_Mod_turn_27 (by decide) rfl ?_
    refine j_iload_n (i := 1) (x := x1) (q := 29) d_Mod_turn_28 rfl rfl rfl ?_
    refine j_ishl (q := 30) d_Mod_turn_29 rfl ?_
    refine j_ixor (q := 31) d_Mod_turn_30 rfl ?_
    refine j_iast (q := 32) d_Mod_turn_31 ai_76 rfl (fun X7 => ?_)
    refine j_aload_n (i := 0) (x := 70) (q := 33) d_Mod_turn_32 rfl rfl rfl ?_
    refine j_get (v := .ref 76) (q := 36) d_Mod_turn_33 fk_Mod_25 fv_70_12 rfl ?_
    refine j_bipush (v := 12) (q := 38) d_Mod_turn_36 (by decide +kernel) rfl ?_
    refine j_iald (q := 39) d_Mod_turn_38 ai_76 rfl ?_
    refine j_iload_n (i := 1) (x := x1) (q := 40) d_Mod_turn_39 rfl rfl rfl ?_
    refine j_ishr (q := 41) d_Mod_turn_40 rfl ?_
    refine j_iconst (v := 1) (q := 42) d_Mod_turn_41 (by decide) rfl ?_
    refine j_iand (q := 43) d_Mod_turn_42 rfl ?_
    exact j_iret d_Mod_turn_43
  · refine j_iconst (v := -1) (q := 14) d_Mod_turn_13 (by decide) rfl ?_
    exact j_iret d_Mod_turn_14
def f_Mod_goRake (a : Nat) (x1 : Int32) (X : HI) (Y : HL) : Option Out :=
    bi (f_Mod_crustOf a x1 X Y) (fun r3 X1 Y2 =>
    gd (ixb ((6 : Int32) + x1) 15) (
    wr (ixb ((6 : Int32) + x1) 15) (up X1 a ((6 : Int32) + x1).toNatClampNeg ((X1 a ((6 : Int32) + x1).toNatClampNeg) - r3)) (fun X4 =>
    gd (ixb (13 : Int32) 15) (
    (if ((X4 a (13 : Int32).toNatClampNeg) + r3) ≤ (9999 : Int32) then
    gd (ixb (13 : Int32) 15) (
    wr (ixb (13 : Int32) 15) (up X4 a (13 : Int32).toNatClampNeg ((X4 a (13 : Int32).toNatClampNeg) + r3)) (fun X5 =>
    (rI r3 X5 Y2)))
    else
    wr (ixb (13 : Int32) 15) (up X4 a (13 : Int32).toNatClampNeg (9999 : Int32)) (fun X6 =>
    (rI r3 X6 Y2)))))))
set_option maxRecDepth 4000 in
theorem c_Mod_goRake {K : KK} (hK : kOK K) (a : Nat) (ha : AI a 15) (x1 : Int32) (X : HI) (Y : HL) : CT K y_Mod_goRake prog_8_method_40_code 3 (some .int) rm_Mod_goRake [.ref a, .int x1] X Y (f_Mod_goRake a x1 X Y) := by
  refine ct_of hK (L := [some (.ref a), some (.int x1), none]) (by decide) ⟨rfl, ⟨rfl, trivial⟩⟩ (Nat.le_of_ble_eq_true rfl) ?_
  unfold f_Mod_goRake
  refine j_aload_n (i := 0) (x := a) (q := 1) d_Mod_goRake_0 rfl rfl rfl ?_
  refine j_iload_n (i := 1) (x := x1) (q := 2) d_Mod_goRake_1 rfl rfl rfl ?_
  refine j_callSi (S := []) (q := 5) [.ref a, .int x1] d_Mod_goRake_2 mw_Mod_crustOf ms_Mod_crustOf ml_Mod_110 rfl rfl (c_Mod_crustOf hK a ha x1 X Y) ⟨⟨rfl, rfl⟩, ⟨Nat.le_of_ble_eq_true rfl, Nat.le_of_ble_eq_true rfl⟩, ⟨Nat.le_refl 0, Nat.le_refl 0⟩⟩ (Nat.le_of_ble_eq_true rfl) rfl (fun r3 X1 Y2 => ?_)
  refine j_istore_n (i := 2) (L' := [some (.ref a), some (.int x1), some (.int r3)]) (q := 6) d_Mod_goRake_5 rfl (by decide) rfl rfl rfl ?_
  refine j_aload_n (i := 0) (x := a) (q := 7) d_Mod_goRake_6 rfl rfl rfl ?_
  refine j_bipush (v := 6) (q := 9) d_Mod_goRake_7 (by decide +kernel) rfl ?_
  refine j_iload_n (i := 1) (x := x1) (q := 10) d_Mod_goRake_9 rfl rfl rfl ?_
  refine j_iadd (q := 11) d_Mod_goRake_10 rfl ?_
  refine j_dup2 (q := 12) d_Mod_goRake_11 rfl rfl rfl ?_
  refine j_iald (q := 13) d_Mod_goRake_12 ha rfl ?_
  refine j_iload_n (i := 2) (x := r3) (q := 14) d_Mod_goRake_13 rfl rfl rfl ?_
  refine j_isub (q := 15) d_Mod_goRake_14 rfl ?_
  refine j_iast (q := 16) d_Mod_goRake_15 ha rfl (fun X4 => ?_)
  refine j_aload_n (i := 0) (x := a) (q := 17) d_Mod_goRake_16 rfl rfl rfl ?_
  refine j_bipush (v := 13) (q := 19) d_Mod_goRake_17 (by decide +kernel) rfl ?_
  refine j_aload_n (i := 0) (x := a) (q := 20) d_Mod_goRake_19 rfl rfl rfl ?_
  refine j_bipush (v := 13) (q := 22) d_Mod_goRake_20 (by decide +kernel) rfl ?_
  refine j_iald (q := 23) d_Mod_goRake_22 ha rfl ?_
  refine j_iload_n (i := 2) (x := r3) (q := 24) d_Mod_goRake_23 rfl rfl rfl ?_
  refine j_iadd (q := 25) d_Mod_goRake_24 rfl ?_
  refine j_sipush (v := 9999) (q := 28) d_Mod_goRake_25 (by decide +kernel) rfl ?_
  refine j_icmp_le (t := 37) (q := 31) d_Mod_goRake_28 (by decide) rfl ?_ ?_
  · refine j_aload_n (i := 0) (x := a) (q := 38) d_Mod_goRake_37 rfl rfl rfl ?_
    refine j_bipush (v := 13) (q := 40) d_Mod_goRake_38 (by decide +kernel) rfl ?_
    refine j_iald (q := 41) d_Mod_goRake_40 ha rfl ?_
    refine j_iload_n (i := 2) (x := r3) (q := 42) d_Mod_goRake_41 rfl rfl rfl ?_
    refine j_iadd (q := 43) d_Mod_goRake_42 rfl ?_
    refine j_iast (q := 44) d_Mod_goRake_43 ha rfl (fun X5 => ?_)
    refine j_iload_n (i := 2) (x := r3) (q := 45) d_Mod_goRake_44 rfl rfl rfl ?_
    exact j_iret d_Mod_goRake_45
  · refine j_sipush (v := 9999) (q := 34) d_Mod_goRake_31 (by decide +kernel) rfl ?_
    refine j_goto (q := 43) d_Mod_goRake_34 (by decide) ?_
    refine j_iast (q := 44) d_Mod_goRake_43 ha rfl (fun X6 => ?_)
    refine j_iload_n (i := 2) (x := r3) (q := 45) d_Mod_goRake_44 rfl rfl rfl ?_
    exact j_iret d_Mod_goRake_45
def f_Mod_rake (x1 : Int32) (X : HI) (Y : HL) : Option Out :=
    lh (up X 70 0 (0 : Int32)) (fun X1 =>
    bi (f_Mod_noPan x1 X1 Y) (fun r4 X2 Y3 =>
    (if r4 = 0 then
    bi (f_Mod_canRake 76 x1 X2 Y3) (fun r7 X5 Y6 =>
    (if r7 = 0 then
    (rI (-3 : Int32) X5 Y6)
    else
    bv (f_Mod_note X5 Y6) (fun X8 Y9 =>
    bi (f_Mod_goRake 76 x1 X8 Y9) (fun r12 X10 Y11 =>
    (rI r12 X10 Y11)))))
    else
    (rI (-1 : Int32) X2 Y3))))
set_option maxRecDepth 4000 in
theorem c_Mod_rake {K : KK} (hK : kOK K) (x1 : Int32) (X : HI) (Y : HL) : CT K y_Mod_rake prog_8_method_41_code 2 (some .int) rm_Mod_rake [.ref 70, .int x1] X Y (f_Mod_rake x1 X Y) := by
  refine ct_of hK (L := [some (.ref 70), some (.int x1)]) (by decide) ⟨rfl, ⟨rfl, trivial⟩⟩ (Nat.le_of_ble_eq_true rfl) ?_
  unfold f_Mod_rake
  refine j_aload_n (i := 0) (x := 70) (q := 1) d_Mod_rake_0 rfl rfl rfl ?_
  refine j_iconst (v := 0) (q := 2) d_Mod_rake_1 (by decide) rfl ?_
  refine j_putI (q := 5) d_Mod_rake_2 fp_Mod_56 fw_70_0 rfl (fun X1 => ?_)
  refine j_aload_n (i := 0) (x := 70) (q := 6) d_Mod_rake_5 rfl rfl rfl ?_
  refine j_iload_n (i := 1) (x := x1) (q := 7) d_Mod_rake_6 rfl rfl rfl ?_
  refine j_callVi (a := 70) (S := []) (q := 10) [.int x1] d_Mod_rake_7 mw_Mod_noPan mv_Mod_noPan ml_Mod_159 ob_70 rfl rfl (c_Mod_noPan hK x1 X1 Y) ⟨⟨rfl, rfl⟩, ⟨Nat.le_of_ble_eq_true rfl, Nat.le_of_ble_eq_true rfl⟩, ⟨Nat.le_refl 0, Nat.le_refl 0⟩⟩ (Nat.le_of_ble_eq_true rfl) rfl (fun r4 X2 Y3 => ?_)
  refine j_if_eq (t := 15) (q := 13) d_Mod_rake_10 (by decide) rfl ?_ ?_
  · refine j_aload_n (i := 0) (x := 70) (q := 16) d_Mod_rake_15 rfl rfl rfl ?_
    refine j_get (v := .ref 76) (q := 19) d_Mod_rake_16 fk_Mod_25 fv_70_12 rfl ?_
    refine j_iload_n (i := 1) (x := x1) (q := 20) d_Mod_rake_19 rfl rfl rfl ?_
    refine j_callSi (S := []) (q := 23) [.ref 76, .int x1] d_Mod_rake_20 mw_Mod_canRake ms_Mod_canRake ml_Mod_142 rfl rfl (c_Mod_canRake hK 76 ai_76 x1 X2 Y3) ⟨⟨rfl, rfl⟩, ⟨Nat.le_of_ble_eq_true rfl, Nat.le_of_ble_eq_true rfl⟩, ⟨Nat.le_refl 0, Nat.le_refl 0⟩⟩ (Nat.le_of_ble_eq_true rfl) rfl (fun r7 X5 Y6 => ?_)
    refine j_if_ne (t := 29) (q := 26) d_Mod_rake_23 (by decide) rfl ?_ ?_
    · refine j_aload_n (i := 0) (x := 70) (q := 30) d_Mod_rake_29 rfl rfl rfl ?_
      refine j_callVv (a := 70) (S := []) (q := 33) [] d_Mod_rake_30 mw_Mod_note mv_Mod_note ml_Mod_163 ob_70 rfl rfl (c_Mod_note hK X5 Y6) ⟨⟨rfl, rfl⟩, ⟨Nat.le_of_ble_eq_true rfl, Nat.le_of_ble_eq_true rfl⟩, ⟨Nat.le_refl 0, Nat.le_refl 0⟩⟩ (Nat.le_of_ble_eq_true rfl) rfl (fun X8 Y9 => ?_)
      refine j_aload_n (i := 0) (x := 70) (q := 34) d_Mod_rake_33 rfl rfl rfl ?_
      refine j_get (v := .ref 76) (q := 37) d_Mod_rake_34 fk_Mod_25 fv_70_12 rfl ?_
      refine j_iload_n (i := 1) (x := x1) (q := 38) d_Mod_rake_37 rfl rfl rfl ?_
      refine j_callSi (S := []) (q := 41) [.ref 76, .int x1] d_Mod_rake_38 mw_Mod_goRake ms_Mod_goRake ml_Mod_175 rfl rfl (c_Mod_goRake hK 76 ai_76 x1 X8 Y9) ⟨⟨rfl, rfl⟩, ⟨Nat.le_of_ble_eq_true rfl, Nat.le_of_ble_eq_true rfl⟩, ⟨Nat.le_refl 0, Nat.le_refl 0⟩⟩ (Nat.le_of_ble_eq_true rfl) rfl (fun r12 X10 Y11 => ?_)
      exact j_iret d_Mod_rake_41
    · refine j_bipush (v := -3) (q := 28) d_Mod_rake_26 (by decide +kernel) rfl ?_
      exact j_iret d_Mod_rake_28
  · refine j_iconst (v := -1) (q := 14) d_Mod_rake_13 (by decide) rfl ?_
    exact j_iret d_Mod_rake_14
def l_Mod_undo_27 (kx : Int32 → HI → HL → Option Out) : Nat → Int32 → HI → HL → Option Out
  | 0, _, _, _ => none
  | n + 1, m1, X, Y =>
    (if (15 : Int32) ≤ m1 then
    (kx m1 X Y)
    else
    gd (ixb (((15 : Int32) * (X 70 15)) + m1) 210) (
    wr (ixb m1 15) (up X 76 m1.toNatClampNeg (X 78 (((15 : Int32) * (X 70 15)) + m1).toNatClampNeg)) (fun X3 =>
    (l_Mod_undo_27 kx n (m1 + (1 : Int32)) X3 Y))))
def f_Mod_undo (X : HI) (Y : HL) : Option Out :=
    lh (up X 70 0 (0 : Int32)) (fun X1 =>
    (if (X1 70 15) = 0 then
    (rI (-3 : Int32) X1 Y)
    else
    lh (up X1 70 15 ((X1 70 15) - (1 : Int32))) (fun X2 =>
    (l_Mod_undo_27 (fun w4 X5 Y6 =>
    (rI (X5 70 15) X5 Y6)) 256 (0 : Int32) X2 Y))))
set_option maxRecDepth 4000 in
theorem jl_Mod_undo_27 {K : KK} (hK : kOK K) (kx : Int32 → HI → HL → Option Out) (hkx : ∀ (m1 : Int32) (X : HI) (Y : HL), JO K "BrinePansModel" prog_8_method_42_code 2 (some .int) rm_Mod_undo 0 0 (MZ K) 59 [some (.ref 70), none] [] X Y (kx m1 X Y)) : ∀ (n : Nat) (m1 : Int32) (X : HI) (Y : HL), JO K "BrinePansModel" prog_8_method_42_code 2 (some .int) rm_Mod_undo 0 0 (MZ K) 27 [some (.ref 70), some (.int m1)] [] X Y (l_Mod_undo_27 kx n m1 X Y) := by
  intro n
  induction n with
  | zero =>
    intro m1 X Y
    rw [l_Mod_undo_27]
    exact j_none
  | succ n ih =>
    intro m1 X Y
    rw [l_Mod_undo_27]
    refine j_iload_n (i := 1) (x := m1) (q := 28) d_Mod_undo_27 rfl rfl rfl ?_
    refine j_bipush (v := 15) (q := 30) d_Mod_undo_28 (by decide +kernel) rfl ?_
    refine j_icmp_ge (t := 59) (q := 33) d_Mod_undo_30 (by decide) rfl ?_ ?_
    · refine j_sub (L' := [some (.ref 70), none]) ⟨rfl, trivial⟩ ?_
      exact hkx m1 X Y
    · refine j_aload_n (i := 0) (x := 70) (q := 34) d_Mod_undo_33 rfl rfl rfl ?_
      refine j_get (v := .ref 76) (q := 37) d_Mod_undo_34 fk_Mod_25 fv_70_12 rfl ?_
      refine j_iload_n (i := 1) (x := m1) (q := 38) d_Mod_undo_37 rfl rfl rfl ?_
      refine j_aload_n (i := 0) (x := 70) (q := 39) d_Mod_undo_38 rfl rfl rfl ?_
      refine j_get (v := .ref 78) (q := 42) d_Mod_undo_39 fk_Mod_31 fv_70_14 rfl ?_
      refine j_bipush (v := 15) (q := 44) d_Mod_undo_42 (by decide +kernel) rfl ?_
      refine j_aload_n (i := 0) (x := 70) (q := 45) d_Mod_undo_44 rfl rfl rfl ?_
      refine j_get (v := .int (X 70 15)) (q := 48) d_Mod_undo_45 fk_Mod_103 fv_70_15 rfl ?_
      refine j_imul (q := 49) d_Mod_undo_48 rfl ?_
      refine j_iload_n (i := 1) (x := m1) (q := 50) d_Mod_undo_49 rfl rfl rfl ?_
      refine j_iadd (q := 51) d_Mod_undo_50 rfl ?_
      refine j_iald (q := 52) d_Mod_undo_51 ai_78 rfl ?_
      refine j_iast (q := 53) d_Mod_undo_52 ai_76 rfl (fun X3 => ?_)
      refine j_iinc (i := 1) (x := m1) (d := 1) (L' := [some (.ref 70), some (.int (m1 + (1 : Int32)))]) (q := 56) d_Mod_undo_53 rfl (by decide) (by decide) rfl rfl rfl ?_
      refine j_goto (q := 27) d_Mod_undo_56 (by decide) ?_
      refine j_sub (L' := [some (.ref 70), some (.int (m1 + (1 : Int32)))]) ⟨rfl, ⟨rfl, trivial⟩⟩ ?_
      exact ih (m1 + (1 : Int32)) X3 Y
set_option maxRecDepth 4000 in
theorem c_Mod_undo {K : KK} (hK : kOK K) (X : HI) (Y : HL) : CT K y_Mod_undo prog_8_method_42_code 2 (some .int) rm_Mod_undo [.ref 70] X Y (f_Mod_undo X Y) := by
  refine ct_of hK (L := [some (.ref 70), none]) (by decide) ⟨rfl, trivial⟩ (Nat.le_of_ble_eq_true rfl) ?_
  unfold f_Mod_undo
  refine j_aload_n (i := 0) (x := 70) (q := 1) d_Mod_undo_0 rfl rfl rfl ?_
  refine j_iconst (v := 0) (q := 2) d_Mod_undo_1 (by decide) rfl ?_
  refine j_putI (q := 5) d_Mod_undo_2 fp_Mod_56 fw_70_0 rfl (fun X1 => ?_)
  refine j_aload_n (i := 0) (x := 70) (q := 6) d_Mod_undo_5 rfl rfl rfl ?_
  refine j_get (v := .int (X1 70 15)) (q := 9) d_Mod_undo_6 fk_Mod_103 fv_70_15 rfl ?_
  refine j_if_ne (t := 15) (q := 12) d_Mod_undo_9 (by decide) rfl ?_ ?_
  · refine j_aload_n (i := 0) (x := 70) (q := 16) d_Mod_undo_15 rfl rfl rfl ?_
    refine j_dup (q := 17) d_Mod_undo_16 rfl rfl ?_
    refine j_get (v := .int (X1 70 15)) (q := 20) d_Mod_undo_17 fk_Mod_103 fv_70_15 rfl ?_
    refine j_iconst (v := 1) (q := 21) d_Mod_undo_20 (by decide) rfl ?_
    refine j_isub (q := 22) d_Mod_undo_21 rfl ?_
    refine j_putI (q := 25) d_Mod_undo_22 fp_Mod_103 fw_70_15 rfl (fun X2 => ?_)
    refine j_iconst (v := 0) (q := 26) d_Mod_undo_25 (by decide) rfl ?_
    refine j_istore_n (i := 1) (L' := [some (.ref 70), some (.int (0 : Int32))]) (q := 27) d_Mod_undo_26 rfl (by decide) rfl rfl rfl ?_
    refine j_sub (L' := [some (.ref 70), some (.int (0 : Int32))]) ⟨rfl, ⟨rfl, trivial⟩⟩ ?_
    refine jl_Mod_undo_27 hK _ (fun w4 X5 Y6 => ?_) 256 (0 : Int32) X2 Y
    refine j_aload_n (i := 0) (x := 70) (q := 60) d_Mod_undo_59 rfl rfl rfl ?_
    refine j_get (v := .int (X5 70 15)) (q := 63) d_Mod_undo_60 fk_Mod_103 fv_70_15 rfl ?_
    exact j_iret d_Mod_undo_63
  · refine j_bipush (v := -3) (q := 14) d_Mod_undo_12 (by decide +kernel) rfl ?_
    exact j_iret d_Mod_undo_14
def l_Mod_begin_2 (kx : Int32 → HI → HL → Option Out) : Nat → Int32 → HI → HL → Option Out
  | 0, _, _, _ => none
  | n + 1, m1, X, Y =>
    (if (15 : Int32) ≤ m1 then
    (kx m1 X Y)
    else
    gd (ixb m1 15) (
    wr (ixb m1 15) (up X 77 m1.toNatClampNeg (X 76 m1.toNatClampNeg)) (fun X1 =>
    (l_Mod_begin_2 kx n (m1 + (1 : Int32)) X1 Y))))
def f_Mod_begin (X : HI) (Y : HL) : Option Out :=
    (l_Mod_begin_2 (fun w2 X3 Y4 =>
    (rV X3 Y4)) 256 (0 : Int32) X Y)
set_option maxRecDepth 4000 in
theorem jl_Mod_begin_2 {K : KK} (hK : kOK K) (kx : Int32 → HI → HL → Option Out) (hkx : ∀ (m1 : Int32) (X : HI) (Y : HL), JO K "BrinePansModel" prog_8_method_43_code 2 none rm_Mod_begin 0 0 (MZ K) 26 [none, none] [] X Y (kx m1 X Y)) : ∀ (n : Nat) (m1 : Int32) (X : HI) (Y : HL), JO K "BrinePansModel" prog_8_method_43_code 2 none rm_Mod_begin 0 0 (MZ K) 2 [some (.ref 70), some (.int m1)] [] X Y (l_Mod_begin_2 kx n m1 X Y) := by
  intro n
  induction n with
  | zero =>
    intro m1 X Y
    rw [l_Mod_begin_2]
    exact j_none
  | succ n ih =>
    intro m1 X Y
    rw [l_Mod_begin_2]
    refine j_iload_n (i := 1) (x := m1) (q := 3) d_Mod_begin_2 rfl rfl rfl ?_
    refine j_bipush (v := 15) (q := 5) d_Mod_begin_3 (by decide +kernel) rfl ?_
    refine j_icmp_ge (t := 26) (q := 8) d_Mod_begin_5 (by decide) rfl ?_ ?_
    · refine j_sub (L' := [none, none]) trivial ?_
      exact hkx m1 X Y
    · refine j_aload_n (i := 0) (x := 70) (q := 9) d_Mod_begin_8 rfl rfl rfl ?_
      refine j_get (v := .ref 77) (q := 12) d_Mod_begin_9 fk_Mod_28 fv_70_13 rfl ?_
      refine j_iload_n (i := 1) (x := m1) (q := 13) d_Mod_begin_12 rfl rfl rfl ?_
      refine j_aload_n (i := 0) (x := 70) (q := 14) d_Mod_begin_13 rfl rfl rfl ?_
      refine j_get (v := .ref 76) (q := 17) d_Mod_begin_14 fk_Mod_25 fv_70_12 rfl ?_
      refine j_iload_n (i := 1) (x := m1) (q := 18) d_Mod_begin_17 rfl rfl rfl ?_
      refine j_iald (q := 19) d_Mod_begin_18 ai_76 rfl ?_
      refine j_iast (q := 20) d_Mod_begin_19 ai_77 rfl (fun X1 => ?_)
      refine j_iinc (i := 1) (x := m1) (d := 1) (L' := [some (.ref 70), some (.int (m1 + (1 : Int32)))]) (q := 23) d_Mod_begin_20 rfl (by decide) (by decide) rfl rfl rfl ?_
      refine j_goto (q := 2) d_Mod_begin_23 (by decide) ?_
      refine j_sub (L' := [some (.ref 70), some (.int (m1 + (1 : Int32)))]) ⟨rfl, ⟨rfl, trivial⟩⟩ ?_
      exact ih (m1 + (1 : Int32)) X1 Y
set_option maxRecDepth 4000 in
theorem c_Mod_begin {K : KK} (hK : kOK K) (X : HI) (Y : HL) : CT K y_Mod_begin prog_8_method_43_code 2 none rm_Mod_begin [.ref 70] X Y (f_Mod_begin X Y) := by
  refine ct_of hK (L := [some (.ref 70), none]) (by decide) ⟨rfl, trivial⟩ (Nat.le_of_ble_eq_true rfl) ?_
  unfold f_Mod_begin
  refine j_iconst (v := 0) (q := 1) d_Mod_begin_0 (by decide) rfl ?_
  refine j_istore_n (i := 1) (L' := [some (.ref 70), some (.int (0 : Int32))]) (q := 2) d_Mod_begin_1 rfl (by decide) rfl rfl rfl ?_
  refine j_sub (L' := [some (.ref 70), some (.int (0 : Int32))]) ⟨rfl, ⟨rfl, trivial⟩⟩ ?_
  refine jl_Mod_begin_2 hK _ (fun w2 X3 Y4 => ?_) 256 (0 : Int32) X Y
  exact j_vret d_Mod_begin_26
def f_Mod_later (x1 : Int32) (x2 : Int32) (x3 : Int32) (X : HI) (Y : HL) : Option Out :=
    lh (up X 70 0 (0 : Int32)) (fun X1 =>
    bi (f_Mod_noPan x1 X1 Y) (fun r4 X2 Y3 =>
    (if r4 = 0 then
    bi (f_Mod_in (x2.toInt64) (0 : Int64) (30 : Int64) X2 Y3) (fun r7 X5 Y6 =>
    (if r7 = 0 then
    (rI (-2 : Int32) X5 Y6)
    else
    bi (f_Mod_in (x3.toInt64) (0 : Int64) (2 : Int64) X5 Y6) (fun r10 X8 Y9 =>
    (if r10 = 0 then
    (rI (-2 : Int32) X8 Y9)
    else
    bv (f_Mod_begin X8 Y9) (fun X11 Y12 =>
    bv (f_Mod_goDays 77 x2 X11 Y12) (fun X13 Y14 =>
    (if x3 = 0 then
    gd (ixb x1 15) (
    (rI (X13 77 x1.toNatClampNeg) X13 Y14))
    else
    (if x3 = (1 : Int32) then
    gd (ixb ((6 : Int32) + x1) 15) (
    (rI (X13 77 ((6 : Int32) + x1).toNatClampNeg) X13 Y14))
    else
    bi (f_Mod_crustOf 77 x1 X13 Y14) (fun r17 X15 Y16 =>
    (rI r17 X15 Y16))))))))))
    else
    (rI (-1 : Int32) X2 Y3))))
set_option maxRecDepth 4000 in
theorem c_Mod_later {K : KK} (hK : kOK K) (x1 : Int32) (x2 : Int32) (x3 : Int32) (X : HI) (Y : HL) : CT K y_Mod_later prog_8_method_44_code 4 (some .int) rm_Mod_later [.ref 70, .int x1, .int x2, .int x3] X Y (f_Mod_later x1 x2 x3 X Y) := by
  refine ct_of hK (L := [some (.ref 70), some (.int x1), some (.int x2), some (.int x3)]) (by decide) ⟨rfl, ⟨rfl, ⟨rfl, ⟨rfl, trivial⟩⟩⟩⟩ (Nat.le_of_ble_eq_true rfl) ?_
  unfold f_Mod_later
  refine j_aload_n (i := 0) (x := 70) (q := 1) d_Mod_later_0 rfl rfl rfl ?_
  refine j_iconst (v := 0) (q := 2) d_Mod_later_1 (by decide) rfl ?_
  refine j_putI (q := 5) d_Mod_later_2 fp_Mod_56 fw_70_0 rfl (fun X1 => ?_)
  refine j_aload_n (i := 0) (x := 70) (q := 6) d_Mod_later_5 rfl rfl rfl ?_
  refine j_iload_n (i := 1) (x := x1) (q := 7) d_Mod_later_6 rfl rfl rfl ?_
  refine j_callVi (a := 70) (S := []) (q := 10) [.int x1] d_Mod_later_7 mw_Mod_noPan mv_Mod_noPan ml_Mod_159 ob_70 rfl rfl (c_Mod_noPan hK x1 X1 Y) ⟨⟨rfl, rfl⟩, ⟨Nat.le_of_ble_eq_true rfl, Nat.le_of_ble_eq_true rfl⟩, ⟨Nat.le_refl 0, Nat.le_refl 0⟩⟩ (Nat.le_of_ble_eq_true rfl) rfl (fun r4 X2 Y3 => ?_)
  refine j_if_eq (t := 15) (q := 13) d_Mod_later_10 (by decide) rfl ?_ ?_
  · refine j_iload_n (i := 2) (x := x2) (q := 16) d_Mod_later_15 rfl rfl rfl ?_
    refine j_i2l (q := 17) d_Mod_later_16 rfl ?_
    refine j_lconst (v := 0) (q := 18) d_Mod_later_17 (by decide) rfl ?_
    refine j_ldc2 (v := 30) (q := 21) d_Mod_later_18 (gw_t 778 (by decide +kernel) (by decide +kernel)) rfl ?_
    refine j_callSi (S := []) (q := 24) [.long x2.toInt64, .long (0 : Int64), .long (30 : Int64)] d_Mod_later_21 mw_Mod_in ms_Mod_in ml_Mod_63 rfl rfl (c_Mod_in hK (x2.toInt64) (0 : Int64) (30 : Int64) X2 Y3) ⟨⟨rfl, rfl⟩, ⟨Nat.le_of_ble_eq_true rfl, Nat.le_of_ble_eq_true rfl⟩, ⟨Nat.le_refl 0, Nat.le_refl 0⟩⟩ (Nat.le_of_ble_eq_true rfl) rfl (fun r7 X5 Y6 => ?_)
    refine j_if_eq (t := 39) (q := 27) d_Mod_later_24 (by decide) rfl ?_ ?_
    · refine j_bipush (v := -2) (q := 41) d_Mod_later_39 (by decide +kernel) rfl ?_
      exact j_iret d_Mod_later_41
    · refine j_iload_n (i := 3) (x := x3) (q := 28) d_Mod_later_27 rfl rfl rfl ?_
      refine j_i2l (q := 29) d_Mod_later_28 rfl ?_
      refine j_lconst (v := 0) (q := 30) d_Mod_later_29 (by decide) rfl ?_
      refine j_ldc2 (v := 2) (q := 33) d_Mod_later_30 (gw_t 779 (by decide +kernel) (by decide +kernel)) rfl ?_
      refine j_callSi (S := []) (q := 36) [.long x3.toInt64, .long (0 : Int64), .long (2 : Int64)] d_Mod_later_33 mw_Mod_in ms_Mod_in ml_Mod_63 rfl rfl (c_Mod_in hK (x3.toInt64) (0 : Int64) (2 : Int64) X5 Y6) ⟨⟨rfl, rfl⟩, ⟨Nat.le_of_ble_eq_true rfl, Nat.le_of_ble_eq_true rfl⟩, ⟨Nat.le_refl 0, Nat.le_refl 0⟩⟩ (Nat.le_of_ble_eq_true rfl) rfl (fun r10 X8 Y9 => ?_)
      refine j_if_ne (t := 42) (q := 39) d_Mod_later_36 (by decide) rfl ?_ ?_
      · refine j_aload_n (i := 0) (x := 70) (q := 43) d_Mod_later_42 rfl rfl rfl ?_
        refine j_callVv (a := 70) (S := []) (q := 46) [] d_Mod_later_43 mw_Mod_begin mv_Mod_begin ml_Mod_182 ob_70 rfl rfl (c_Mod_begin hK X8 Y9) ⟨⟨rfl, rfl⟩, ⟨Nat.le_of_ble_eq_true rfl, Nat.le_of_ble_eq_true rfl⟩, ⟨Nat.le_refl 0, Nat.le_refl 0⟩⟩ (Nat.le_of_ble_eq_true rfl) rfl (fun X11 Y12 => ?_)
        refine j_aload_n (i := 0) (x := 70) (q := 47) d_Mod_later_46 rfl rfl rfl ?_
        refine j_aload_n (i := 0) (x := 70) (q := 48) d_Mod_later_47 rfl rfl rfl ?_
        refine j_get (v := .ref 77) (q := 51) d_Mod_later_48 fk_Mod_28 fv_70_13 rfl ?_
        refine j_iload_n (i := 2) (x := x2) (q := 52) d_Mod_later_51 rfl rfl rfl ?_
        refine j_callVv (a := 70) (S := []) (q := 55) [.ref 77, .int x2] d_Mod_later_52 mw_Mod_goDays mv_Mod_goDays ml_Mod_185 ob_70 rfl rfl (c_Mod_goDays hK 77 ai_77 x2 X11 Y12) ⟨⟨rfl, rfl⟩, ⟨Nat.le_of_ble_eq_true rfl, Nat.le_of_ble_eq_true rfl⟩, ⟨Nat.le_refl 0, Nat.le_refl 0⟩⟩ (Nat.le_of_ble_eq_true rfl) rfl (fun X13 Y14 => ?_)
        refine j_iload_n (i := 3) (x := x3) (q := 56) d_Mod_later_55 rfl rfl rfl ?_
        refine j_if_ne (t := 68) (q := 59) d_Mod_later_56 (by decide) rfl ?_ ?_
        · refine j_iload_n (i := 3) (x := x3) (q := 69) d_Mod_later_68 rfl rfl rfl ?_
          refine j_iconst (v := 1) (q := 70) d_Mod_later_69 (by decide) rfl ?_
          refine j_icmp_ne (t := 85) (q := 73) d_Mod_later_70 (by decide) rfl ?_ ?_
          · refine j_aload_n (i := 0) (x := 70) (q := 86) d_Mod_later_85 rfl rfl rfl ?_
            refine j_get (v := .ref 77) (q := 89) d_Mod_later_86 fk_Mod_28 fv_70_13 rfl ?_
            refine j_iload_n (i := 1) (x := x1) (q := 90) d_Mod_later_89 rfl rfl rfl ?_
            refine j_callSi (S := []) (q := 93) [.ref 77, .int x1] d_Mod_later_90 mw_Mod_crustOf ms_Mod_crustOf ml_Mod_110 rfl rfl (c_Mod_crustOf hK 77 ai_77 x1 X13 Y14) ⟨⟨rfl, rfl⟩, ⟨Nat.le_of_ble_eq_true rfl, Nat.le_of_ble_eq_true rfl⟩, ⟨Nat.le_refl 0, Nat.le_refl 0⟩⟩ (Nat.le_of_ble_eq_true rfl) rfl (fun r17 X15 Y16 => ?_)
            exact j_iret d_Mod_later_93
          · refine j_aload_n (i := 0) (x := 70) (q := 74) d_Mod_later_73 rfl rfl rfl ?_
            refine j_get (v := .ref 77) (q := 77) d_Mod_later_74 fk_Mod_28 fv_70_13 rfl ?_
            refine j_bipush (v := 6) (q := 79) d_Mod_later_77 (by decide +kernel) rfl ?_
            refine j_iload_n (i := 1) (x := x1) (q := 80) d_Mod_later_79 rfl rfl rfl ?_
            refine j_iadd (q := 81) d_Mod_later_80 rfl ?_
            refine j_iald (q := 82) d_Mod_later_81 ai_77 rfl ?_
            refine j_goto (q := 93) d_Mod_later_82 (by decide) ?_
            exact j_iret d_Mod_later_93
        · refine j_aload_n (i := 0) (x := 70) (q := 60) d_Mod_later_59 rfl rfl rfl ?_
          refine j_get (v := .ref 77) (q := 63) d_Mod_later_60 fk_Mod_28 fv_70_13 rfl ?_
          refine j_iload_n (i := 1) (x := x1) (q := 64) d_Mod_later_63 rfl rfl rfl ?_
          refine j_iald (q := 65) d_Mod_later_64 ai_77 rfl ?_
          refine j_goto (q := 93) d_Mod_later_65 (by decide) ?_
          exact j_iret d_Mod_later_93
      · refine j_bipush (v := -2) (q := 41) d_Mod_later_39 (by decide +kernel) rfl ?_
        exact j_iret d_Mod_later_41
  · refine j_iconst (v := -1) (q := 14) d_Mod_later_13 (by decide) rfl ?_
    exact j_iret d_Mod_later_14
def f_Mod_crust (x1 : Int32) (X : HI) (Y : HL) : Option Out :=
    lh (up X 70 0 (0 : Int32)) (fun X1 =>
    bi (f_Mod_in (x1.toInt64) (0 : Int64) (30 : Int64) X1 Y) (fun r4 X2 Y3 =>
    (if r4 = 0 then
    (rI (-2 : Int32) X2 Y3)
    else
    bv (f_Mod_begin X2 Y3) (fun X5 Y6 =>
    bv (f_Mod_goDays 77 x1 X5 Y6) (fun X7 Y8 =>
    bi (f_Mod_crustOfAll 77 X7 Y8) (fun r11 X9 Y10 =>
    (rI r11 X9 Y10)))))))
set_option maxRecDepth 4000 in
theorem c_Mod_crust {K : KK} (hK : kOK K) (x1 : Int32) (X : HI) (Y : HL) : CT K y_Mod_crust prog_8_method_45_code 2 (some .int) rm_Mod_crust [.ref 70, .int x1] X Y (f_Mod_crust x1 X Y) := by
  refine ct_of hK (L := [some (.ref 70), some (.int x1)]) (by decide) ⟨rfl, ⟨rfl, trivial⟩⟩ (Nat.le_of_ble_eq_true rfl) ?_
  unfold f_Mod_crust
  refine j_aload_n (i := 0) (x := 70) (q := 1) d_Mod_crust_0 rfl rfl rfl ?_
  refine j_iconst (v := 0) (q := 2) d_Mod_crust_1 (by decide) rfl ?_
  refine j_putI (q := 5) d_Mod_crust_2 fp_Mod_56 fw_70_0 rfl (fun X1 => ?_)
  refine j_iload_n (i := 1) (x := x1) (q := 6) d_Mod_crust_5 rfl rfl rfl ?_
  refine j_i2l (q := 7) d_Mod_crust_6 rfl ?_
  refine j_lconst (v := 0) (q := 8) d_Mod_crust_7 (by decide) rfl ?_
  refine j_ldc2 (v := 30) (q := 11) d_Mod_crust_8 (gw_t 778 (by decide +kernel) (by decide +kernel)) rfl ?_
  refine j_callSi (S := []) (q := 14) [.long x1.toInt64, .long (0 : Int64), .long (30 : Int64)] d_Mod_crust_11 mw_Mod_in ms_Mod_in ml_Mod_63 rfl rfl (c_Mod_in hK (x1.toInt64) (0 : Int64) (30 : Int64) X1 Y) ⟨⟨rfl, rfl⟩, ⟨Nat.le_of_ble_eq_true rfl, Nat.le_of_ble_eq_true rfl⟩, ⟨Nat.le_refl 0, Nat.le_refl 0⟩⟩ (Nat.le_of_ble_eq_true rfl) rfl (fun r4 X2 Y3 => ?_)
  refine j_if_ne (t := 20) (q := 17) d_Mod_crust_14 (by decide) rfl ?_ ?_
  · refine j_aload_n (i := 0) (x := 70) (q := 21) d_Mod_crust_20 rfl rfl rfl ?_
    refine j_callVv (a := 70) (S := []) (q := 24) [] d_Mod_crust_21 mw_Mod_begin mv_Mod_begin ml_Mod_182 ob_70 rfl rfl (c_Mod_begin hK X2 Y3) ⟨⟨rfl, rfl⟩, ⟨Nat.le_of_ble_eq_true rfl, Nat.le_of_ble_eq_true rfl⟩, ⟨Nat.le_refl 0, Nat.le_refl 0⟩⟩ (Nat.le_of_ble_eq_true rfl) rfl (fun X5 Y6 => ?_)
    refine j_aload_n (i := 0) (x := 70) (q := 25) d_Mod_crust_24 rfl rfl rfl ?_
    refine j_aload_n (i := 0) (x := 70) (q := 26) d_Mod_crust_25 rfl rfl rfl ?_
    refine j_get (v := .ref 77) (q := 29) d_Mod_crust_26 fk_Mod_28 fv_70_13 rfl ?_
    refine j_iload_n (i := 1) (x := x1) (q := 30) d_Mod_crust_29 rfl rfl rfl ?_
    refine j_callVv (a := 70) (S := []) (q := 33) [.ref 77, .int x1] d_Mod_crust_30 mw_Mod_goDays mv_Mod_goDays ml_Mod_185 ob_70 rfl rfl (c_Mod_goDays hK 77 ai_77 x1 X5 Y6) ⟨⟨rfl, rfl⟩, ⟨Nat.le_of_ble_eq_true rfl, Nat.le_of_ble_eq_true rfl⟩, ⟨Nat.le_refl 0, Nat.le_refl 0⟩⟩ (Nat.le_of_ble_eq_true rfl) rfl (fun X7 Y8 => ?_)
    refine j_aload_n (i := 0) (x := 70) (q := 34) d_Mod_crust_33 rfl rfl rfl ?_
    refine j_aload_n (i := 0) (x := 70) (q := 35) d_Mod_crust_34 rfl rfl rfl ?_
    refine j_get (v := .ref 77) (q := 38) d_Mod_crust_35 fk_Mod_28 fv_70_13 rfl ?_
    refine j_callVi (a := 70) (S := []) (q := 41) [.ref 77] d_Mod_crust_38 mw_Mod_crustOfAll mv_Mod_crustOfAll ml_Mod_150 ob_70 rfl rfl (c_Mod_crustOfAll hK 77 ai_77 X7 Y8) ⟨⟨rfl, rfl⟩, ⟨Nat.le_of_ble_eq_true rfl, Nat.le_of_ble_eq_true rfl⟩, ⟨Nat.le_refl 0, Nat.le_refl 0⟩⟩ (Nat.le_of_ble_eq_true rfl) rfl (fun r11 X9 Y10 => ?_)
    exact j_iret d_Mod_crust_41
  · refine j_bipush (v := -2) (q := 19) d_Mod_crust_17 (by decide +kernel) rfl ?_
    exact j_iret d_Mod_crust_19
def l_Mod_ripe_21 (x1 : Int32) (kx : Int32 → HI → HL → Option Out) : Nat → Int32 → HI → HL → Option Out
  | 0, _, _, _ => none
  | n + 1, m2, X, Y =>
    (if (30 : Int32) < m2 then
    (kx m2 X Y)
    else
    bi (f_Mod_canRake 77 x1 X Y) (fun r9 X7 Y8 =>
    (if r9 = 0 then
    bv (f_Mod_goDay 77 (1 : Int32) X7 Y8) (fun X10 Y11 =>
    (l_Mod_ripe_21 x1 kx n (m2 + (1 : Int32)) X10 Y11))
    else
    (rI m2 X7 Y8))))
def f_Mod_ripe (x1 : Int32) (X : HI) (Y : HL) : Option Out :=
    lh (up X 70 0 (0 : Int32)) (fun X1 =>
    bi (f_Mod_noPan x1 X1 Y) (fun r4 X2 Y3 =>
    (if r4 = 0 then
    bv (f_Mod_begin X2 Y3) (fun X5 Y6 =>
    (l_Mod_ripe_21 x1 (fun w12 X13 Y14 =>
    (rI (-9 : Int32) X13 Y14)) 256 (0 : Int32) X5 Y6))
    else
    (rI (-1 : Int32) X2 Y3))))
set_option maxRecDepth 4000 in
theorem jl_Mod_ripe_21 {K : KK} (hK : kOK K) (x1 : Int32) (kx : Int32 → HI → HL → Option Out) (hkx : ∀ (m2 : Int32) (X : HI) (Y : HL), JO K "BrinePansModel" prog_8_method_46_code 3 (some .int) rm_Mod_ripe 0 0 (MZ K) 55 [none, none, none] [] X Y (kx m2 X Y)) : ∀ (n : Nat) (m2 : Int32) (X : HI) (Y : HL), JO K "BrinePansModel" prog_8_method_46_code 3 (some .int) rm_Mod_ripe 0 0 (MZ K) 21 [some (.ref 70), some (.int x1), some (.int m2)] [] X Y (l_Mod_ripe_21 x1 kx n m2 X Y) := by
  intro n
  induction n with
  | zero =>
    intro m2 X Y
    rw [l_Mod_ripe_21]
    exact j_none
  | succ n ih =>
    intro m2 X Y
    rw [l_Mod_ripe_21]
    refine j_iload_n (i := 2) (x := m2) (q := 22) d_Mod_ripe_21 rfl rfl rfl ?_
    refine j_bipush (v := 30) (q := 24) d_Mod_ripe_22 (by decide +kernel) rfl ?_
    refine j_icmp_gt (t := 55) (q := 27) d_Mod_ripe_24 (by decide) rfl ?_ ?_
    · refine j_sub (L' := [none, none, none]) trivial ?_
      exact hkx m2 X Y
    · refine j_aload_n (i := 0) (x := 70) (q := 28) d_Mod_ripe_27 rfl rfl rfl ?_
      refine j_get (v := .ref 77) (q := 31) d_Mod_ripe_28 fk_Mod_28 fv_70_13 rfl ?_
      refine j_iload_n (i := 1) (x := x1) (q := 32) d_Mod_ripe_31 rfl rfl rfl ?_
      refine j_callSi (S := []) (q := 35) [.ref 77, .int x1] d_Mod_ripe_32 mw_Mod_canRake ms_Mod_canRake ml_Mod_142 rfl rfl (c_Mod_canRake hK 77 ai_77 x1 X Y) ⟨⟨rfl, rfl⟩, ⟨Nat.le_of_ble_eq_true rfl, Nat.le_of_ble_eq_true rfl⟩, ⟨Nat.le_refl 0, Nat.le_refl 0⟩⟩ (Nat.le_of_ble_eq_true rfl) rfl (fun r9 X7 Y8 => ?_)
      refine j_if_eq (t := 40) (q := 38) d_Mod_ripe_35 (by decide) rfl ?_ ?_
      · refine j_aload_n (i := 0) (x := 70) (q := 41) d_Mod_ripe_40 rfl rfl rfl ?_
        refine j_aload_n (i := 0) (x := 70) (q := 42) d_Mod_ripe_41 rfl rfl rfl ?_
        refine j_get (v := .ref 77) (q := 45) d_Mod_ripe_42 fk_Mod_28 fv_70_13 rfl ?_
        refine j_iconst (v := 1) (q := 46) d_Mod_ripe_45 (by decide) rfl ?_
        refine j_callVv (a := 70) (S := []) (q := 49) [.ref 77, .int (1 : Int32)] d_Mod_ripe_46 mw_Mod_goDay mv_Mod_goDay ml_Mod_138 ob_70 rfl rfl (c_Mod_goDay hK 77 ai_77 (1 : Int32) X7 Y8) ⟨⟨rfl, rfl⟩, ⟨Nat.le_of_ble_eq_true rfl, Nat.le_of_ble_eq_true rfl⟩, ⟨Nat.le_refl 0, Nat.le_refl 0⟩⟩ (Nat.le_of_ble_eq_true rfl) rfl (fun X10 Y11 => ?_)
        refine j_iinc (i := 2) (x := m2) (d := 1) (L' := [some (.ref 70), some (.int x1), some (.int (m2 + (1 : Int32)))]) (q := 52) d_Mod_ripe_49 rfl (by decide) (by decide) rfl rfl rfl ?_
        refine j_goto (q := 21) d_Mod_ripe_52 (by decide) ?_
        refine j_sub (L' := [some (.ref 70), some (.int x1), some (.int (m2 + (1 : Int32)))]) ⟨rfl, ⟨rfl, ⟨rfl, trivial⟩⟩⟩ ?_
        exact ih (m2 + (1 : Int32)) X10 Y11
      · refine j_iload_n (i := 2) (x := m2) (q := 39) d_Mod_ripe_38 rfl rfl rfl ?_
        exact j_iret d_Mod_ripe_39
set_option maxRecDepth 4000 in
theorem c_Mod_ripe {K : KK} (hK : kOK K) (x1 : Int32) (X : HI) (Y : HL) : CT K y_Mod_ripe prog_8_method_46_code 3 (some .int) rm_Mod_ripe [.ref 70, .int x1] X Y (f_Mod_ripe x1 X Y) := by
  refine ct_of hK (L := [some (.ref 70), some (.int x1), none]) (by decide) ⟨rfl, ⟨rfl, trivial⟩⟩ (Nat.le_of_ble_eq_true rfl) ?_
  unfold f_Mod_ripe
  refine j_aload_n (i := 0) (x := 70) (q := 1) d_Mod_ripe_0 rfl rfl rfl ?_
  refine j_iconst (v := 0) (q := 2) d_Mod_ripe_1 (by decide) rfl ?_
  refine j_putI (q := 5) d_Mod_ripe_2 fp_Mod_56 fw_70_0 rfl (fun X1 => ?_)
  refine j_aload_n (i := 0) (x := 70) (q := 6) d_Mod_ripe_5 rfl rfl rfl ?_
  refine j_iload_n (i := 1) (x := x1) (q := 7) d_Mod_ripe_6 rfl rfl rfl ?_
  refine j_callVi (a := 70) (S := []) (q := 10) [.int x1] d_Mod_ripe_7 mw_Mod_noPan mv_Mod_noPan ml_Mod_159 ob_70 rfl rfl (c_Mod_noPan hK x1 X1 Y) ⟨⟨rfl, rfl⟩, ⟨Nat.le_of_ble_eq_true rfl, Nat.le_of_ble_eq_true rfl⟩, ⟨Nat.le_refl 0, Nat.le_refl 0⟩⟩ (Nat.le_of_ble_eq_true rfl) rfl (fun r4 X2 Y3 => ?_)
  refine j_if_eq (t := 15) (q := 13) d_Mod_ripe_10 (by decide) rfl ?_ ?_
  · refine j_aload_n (i := 0) (x := 70) (q := 16) d_Mod_ripe_15 rfl rfl rfl ?_
    refine j_callVv (a := 70) (S := []) (q := 19) [] d_Mod_ripe_16 mw_Mod_begin mv_Mod_begin ml_Mod_182 ob_70 rfl rfl (c_Mod_begin hK X2 Y3) ⟨⟨rfl, rfl⟩, ⟨Nat.le_of_ble_eq_true rfl, Nat.le_of_ble_eq_true rfl⟩, ⟨Nat.le_refl 0, Nat.le_refl 0⟩⟩ (Nat.le_of_ble_eq_true rfl) rfl (fun X5 Y6 => ?_)
    refine j_iconst (v := 0) (q := 20) d_Mod_ripe_19 (by decide) rfl ?_
    refine j_istore_n (i := 2) (L' := [some (.ref 70), some (.int x1), some (.int (0 : Int32))]) (q := 21) d_Mod_ripe_20 rfl (by decide) rfl rfl rfl ?_
    refine j_sub (L' := [some (.ref 70), some (.int x1), some (.int (0 : Int32))]) ⟨rfl, ⟨rfl, ⟨rfl, trivial⟩⟩⟩ ?_
    refine jl_Mod_ripe_21 hK x1 _ (fun w12 X13 Y14 => ?_) 256 (0 : Int32) X5 Y6
    refine j_bipush (v := -9) (q := 57) d_Mod_ripe_55 (by decide +kernel) rfl ?_
    exact j_iret d_Mod_ripe_57
  · refine j_iconst (v := -1) (q := 14) d_Mod_ripe_13 (by decide) rfl ?_
    exact j_iret d_Mod_ripe_14
def b_Mod_findBest_156 (kc : Int32 → HI → HL → Option Out) (kx : Int32 → HI → HL → Option Out) (x1 : Int32) (x2 : Int32) (x3 : Int32) (X : HI) (Y : HL) : Option Out :=
    (kc (x3 + (1 : Int32)) X Y)
def b_Mod_findBest_153 (kc : Int32 → HI → HL → Option Out) (kx : Int32 → HI → HL → Option Out) (x1 : Int32) (x2 : Int32) (x3 : Int32) (s0 : Int32) (X : HI) (Y : HL) : Option Out :=
    lh (up X 70 23 s0) (fun X24 =>
    (b_Mod_findBest_156 kc kx x1 x2 x3 X24 Y))
def b_Mod_findBest_131 (kc : Int32 → HI → HL → Option Out) (kx : Int32 → HI → HL → Option Out) (x1 : Int32) (x2 : Int32) (x3 : Int32) (x4 : Int32) (s0 : Int32) (X : HI) (Y : HL) : Option Out :=
    lh (up X 70 24 s0) (fun X23 =>
    (if x4 ≤ (X23 70 23) then
    (b_Mod_findBest_153 kc kx x1 x2 x3 (X23 70 23) X23 Y)
    else
    (b_Mod_findBest_153 kc kx x1 x2 x3 x4 X23 Y)))
def l_Mod_findBest_44 (x1 : Int32) (x2 : Int32) (kx : Int32 → HI → HL → Option Out) : Nat → Int32 → HI → HL → Option Out
  | 0, _, _, _ => none
  | n + 1, m3, X, Y =>
    (if (9 : Int32) < m3 then
    (kx m3 X Y)
    else
    gd (ixb x2 15) (
    (if (X 76 x2.toNatClampNeg) < m3 then
    (b_Mod_findBest_156 (fun a3 A B => l_Mod_findBest_44 x1 x2 kx n a3 A B) kx x1 x2 m3 X Y)
    else
    bi (f_Mod_room 76 (x2 + (1 : Int32)) X Y) (fun r12 X10 Y11 =>
    (if r12 < m3 then
    (b_Mod_findBest_156 (fun a3 A B => l_Mod_findBest_44 x1 x2 kx n a3 A B) kx x1 x2 m3 X10 Y11)
    else
    bv (f_Mod_begin X10 Y11) (fun X13 Y14 =>
    bi (f_Mod_goLet 77 x2 m3 X13 Y14) (fun r17 X15 Y16 =>
    bv (f_Mod_goDays 77 x1 X15 Y16) (fun X18 Y19 =>
    bi (f_Mod_crustOfAll 77 X18 Y19) (fun r22 X20 Y21 =>
    (if r22 ≤ (X20 70 23) then
    (b_Mod_findBest_131 (fun a3 A B => l_Mod_findBest_44 x1 x2 kx n a3 A B) kx x1 x2 m3 r22 (X20 70 24) X20 Y21)
    else
    (b_Mod_findBest_131 (fun a3 A B => l_Mod_findBest_44 x1 x2 kx n a3 A B) kx x1 x2 m3 r22 (((10 : Int32) * x2) + m3) X20 Y21)))))))))))
def l_Mod_findBest_32 (x1 : Int32) (kx : Int32 → HI → HL → Option Out) : Nat → Int32 → HI → HL → Option Out
  | 0, _, _, _ => none
  | n + 1, m2, X, Y =>
    (if ((X 70 4) - (1 : Int32)) ≤ m2 then
    (kx m2 X Y)
    else
    (l_Mod_findBest_44 x1 m2 (fun w25 X26 Y27 =>
    (l_Mod_findBest_32 x1 kx n (m2 + (1 : Int32)) X26 Y27)) 256 (1 : Int32) X Y))
def f_Mod_findBest (x1 : Int32) (X : HI) (Y : HL) : Option Out :=
    bv (f_Mod_begin X Y) (fun X1 Y2 =>
    bv (f_Mod_goDays 77 x1 X1 Y2) (fun X3 Y4 =>
    bi (f_Mod_crustOfAll 77 X3 Y4) (fun r7 X5 Y6 =>
    lh (up X5 70 23 r7) (fun X8 =>
    lh (up X8 70 24 (0 : Int32)) (fun X9 =>
    (l_Mod_findBest_32 x1 (fun w28 X29 Y30 =>
    (rV X29 Y30)) 256 (0 : Int32) X9 Y6))))))
set_option maxRecDepth 4000 in
theorem jb_Mod_findBest_156 {K : KK} (hK : kOK K) (kc : Int32 → HI → HL → Option Out) (kx : Int32 → HI → HL → Option Out) (x1 : Int32) (x2 : Int32) (x3 : Int32) (hkc : ∀ (m3 : Int32) (X : HI) (Y : HL), JO K "BrinePansModel" prog_8_method_47_code 5 none rm_Mod_findBest 0 0 (MZ K) 44 [some (.ref 70), some (.int x1), some (.int x2), some (.int m3), none] [] X Y (kc m3 X Y)) (hkx : ∀ (m3 : Int32) (X : HI) (Y : HL), JO K "BrinePansModel" prog_8_method_47_code 5 none rm_Mod_findBest 0 0 (MZ K) 162 [some (.ref 70), some (.int x1), some (.int x2), none, none] [] X Y (kx m3 X Y)) (X : HI) (Y : HL) : JO K "BrinePansModel" prog_8_method_47_code 5 none rm_Mod_findBest 0 0 (MZ K) 156 [some (.ref 70), some (.int x1), some (.int x2), some (.int x3), none] [] X Y (b_Mod_findBest_156 kc kx x1 x2 x3 X Y) := by
  unfold b_Mod_findBest_156
  refine j_iinc (i := 3) (x := x3) (d := 1) (L' := [some (.ref 70), some (.int x1), some (.int x2), some (.int (x3 + (1 : Int32))), none]) (q := 159) d_Mod_findBest_156 rfl (by decide) (by decide) rfl rfl rfl ?_
  refine j_goto (q := 44) d_Mod_findBest_159 (by decide) ?_
  refine j_sub (L' := [some (.ref 70), some (.int x1), some (.int x2), some (.int (x3 + (1 : Int32))), none]) ⟨rfl, ⟨rfl, ⟨rfl, ⟨rfl, trivial⟩⟩⟩⟩ ?_
  exact hkc (x3 + (1 : Int32)) X Y
set_option maxRecDepth 4000 in
theorem jb_Mod_findBest_153 {K : KK} (hK : kOK K) (kc : Int32 → HI → HL → Option Out) (kx : Int32 → HI → HL → Option Out) (x1 : Int32) (x2 : Int32) (x3 : Int32) (s0 : Int32) (hkc : ∀ (m3 : Int32) (X : HI) (Y : HL), JO K "BrinePansModel" prog_8_method_47_code 5 none rm_Mod_findBest 0 0 (MZ K) 44 [some (.ref 70), some (.int x1), some (.int x2), some (.int m3), none] [] X Y (kc m3 X Y)) (hkx : ∀ (m3 : Int32) (X : HI) (Y : HL), JO K "BrinePansModel" prog_8_method_47_code 5 none rm_Mod_findBest 0 0 (MZ K) 162 [some (.ref 70), some (.int x1), some (.int x2), none, none] [] X Y (kx m3 X Y)) (X : HI) (Y : HL) : JO K "BrinePansModel" prog_8_method_47_code 5 none rm_Mod_findBest 0 0 (MZ K) 153 [some (.ref 70), some (.int x1), some (.int x2), some (.int x3), none] [.int s0, .ref 70] X Y (b_Mod_findBest_153 kc kx x1 x2 x3 s0 X Y) := by
  unfold b_Mod_findBest_153
  refine j_putI (q := 156) d_Mod_findBest_153 fp_Mod_188 fw_70_23 rfl (fun X24 => ?_)
  refine j_sub (L' := [some (.ref 70), some (.int x1), some (.int x2), some (.int x3), none]) ⟨rfl, ⟨rfl, ⟨rfl, ⟨rfl, trivial⟩⟩⟩⟩ ?_
  exact jb_Mod_findBest_156 hK kc kx x1 x2 x3 hkc hkx X24 Y
set_option maxRecDepth 4000 in
theorem jb_Mod_findBest_131 {K : KK} (hK : kOK K) (kc : Int32 → HI → HL → Option Out) (kx : Int32 → HI → HL → Option Out) (x1 : Int32) (x2 : Int32) (x3 : Int32) (x4 : Int32) (s0 : Int32) (hkc : ∀ (m3 : Int32) (X : HI) (Y : HL), JO K "BrinePansModel" prog_8_method_47_code 5 none rm_Mod_findBest 0 0 (MZ K) 44 [some (.ref 70), some (.int x1), some (.int x2), some (.int m3), none] [] X Y (kc m3 X Y)) (hkx : ∀ (m3 : Int32) (X : HI) (Y : HL), JO K "BrinePansModel" prog_8_method_47_code 5 none rm_Mod_findBest 0 0 (MZ K) 162 [some (.ref 70), some (.int x1), some (.int x2), none, none] [] X Y (kx m3 X Y)) (X : HI) (Y : HL) : JO K "BrinePansModel" prog_8_method_47_code 5 none rm_Mod_findBest 0 0 (MZ K) 131 [some (.ref 70), some (.int x1), some (.int x2), some (.int x3), some (.int x4)] [.int s0, .ref 70] X Y (b_Mod_findBest_131 kc kx x1 x2 x3 x4 s0 X Y) := by
  unfold b_Mod_findBest_131
  refine j_putI (q := 134) d_Mod_findBest_131 fp_Mod_191 fw_70_24 rfl (fun X23 => ?_)
  refine j_aload_n (i := 0) (x := 70) (q := 135) d_Mod_findBest_134 rfl rfl rfl ?_
  refine j_iload (i := 4) (x := x4) (q := 137) d_Mod_findBest_135 rfl rfl ?_
  refine j_aload_n (i := 0) (x := 70) (q := 138) d_Mod_findBest_137 rfl rfl rfl ?_
  refine j_get (v := .int (X23 70 23)) (q := 141) d_Mod_findBest_138 fk_Mod_188 fv_70_23 rfl ?_
  refine j_icmp_le (t := 149) (q := 144) d_Mod_findBest_141 (by decide) rfl ?_ ?_
  · refine j_aload_n (i := 0) (x := 70) (q := 150) d_Mod_findBest_149 rfl rfl rfl ?_
    refine j_get (v := .int (X23 70 23)) (q := 153) d_Mod_findBest_150 fk_Mod_188 fv_70_23 rfl ?_
    refine j_sub (L' := [some (.ref 70), some (.int x1), some (.int x2), some (.int x3), none]) ⟨rfl, ⟨rfl, ⟨rfl, ⟨rfl, trivial⟩⟩⟩⟩ ?_
    exact jb_Mod_findBest_153 hK kc kx x1 x2 x3 (X23 70 23) hkc hkx X23 Y
  · refine j_iload (i := 4) (x := x4) (q := 146) d_Mod_findBest_144 rfl rfl ?_
    refine j_goto (q := 153) d_Mod_findBest_146 (by decide) ?_
    refine j_sub (L' := [some (.ref 70), some (.int x1), some (.int x2), some (.int x3), none]) ⟨rfl, ⟨rfl, ⟨rfl, ⟨rfl, trivial⟩⟩⟩⟩ ?_
    exact jb_Mod_findBest_153 hK kc kx x1 x2 x3 x4 hkc hkx X23 Y
set_option maxRecDepth 4000 in
theorem jl_Mod_findBest_44 {K : KK} (hK : kOK K) (x1 : Int32) (x2 : Int32) (kx : Int32 → HI → HL → Option Out) (hkx : ∀ (m3 : Int32) (X : HI) (Y : HL), JO K "BrinePansModel" prog_8_method_47_code 5 none rm_Mod_findBest 0 0 (MZ K) 162 [some (.ref 70), some (.int x1), some (.int x2), none, none] [] X Y (kx m3 X Y)) : ∀ (n : Nat) (m3 : Int32) (X : HI) (Y : HL), JO K "BrinePansModel" prog_8_method_47_code 5 none rm_Mod_findBest 0 0 (MZ K) 44 [some (.ref 70), some (.int x1), some (.int x2), some (.int m3), none] [] X Y (l_Mod_findBest_44 x1 x2 kx n m3 X Y) := by
  intro n
  induction n with
  | zero =>
    intro m3 X Y
    rw [l_Mod_findBest_44]
    exact j_none
  | succ n ih =>
    intro m3 X Y
    rw [l_Mod_findBest_44]
    refine j_iload_n (i := 3) (x := m3) (q := 45) d_Mod_findBest_44 rfl rfl rfl ?_
    refine j_bipush (v := 9) (q := 47) d_Mod_findBest_45 (by decide +kernel) rfl ?_
    refine j_icmp_gt (t := 162) (q := 50) d_Mod_findBest_47 (by decide) rfl ?_ ?_
    · refine j_sub (L' := [some (.ref 70), some (.int x1), some (.int x2), none, none]) ⟨rfl, ⟨rfl, ⟨rfl, trivial⟩⟩⟩ ?_
      exact hkx m3 X Y
    · refine j_aload_n (i := 0) (x := 70) (q := 51) d_Mod_findBest_50 rfl rfl rfl ?_
      refine j_get (v := .ref 76) (q := 54) d_Mod_findBest_51 fk_Mod_25 fv_70_12 rfl ?_
      refine j_iload_n (i := 2) (x := x2) (q := 55) d_Mod_findBest_54 rfl rfl rfl ?_
      refine j_iald (q := 56) d_Mod_findBest_55 ai_76 rfl ?_
      refine j_iload_n (i := 3) (x := m3) (q := 57) d_Mod_findBest_56 rfl rfl rfl ?_
      refine j_icmp_lt (t := 156) (q := 60) d_Mod_findBest_57 (by decide) rfl ?_ ?_
      · refine j_sub (L' := [some (.ref 70), some (.int x1), some (.int x2), some (.int m3), none]) ⟨rfl, ⟨rfl, ⟨rfl, ⟨rfl, trivial⟩⟩⟩⟩ ?_
        exact jb_Mod_findBest_156 hK (fun a3 A B => l_Mod_findBest_44 x1 x2 kx n a3 A B) kx x1 x2 m3 ih hkx X Y
      · refine j_aload_n (i := 0) (x := 70) (q := 61) d_Mod_findBest_60 rfl rfl rfl ?_
        refine j_aload_n (i := 0) (x := 70) (q := 62) d_Mod_findBest_61 rfl rfl rfl ?_
        refine j_get (v := .ref 76) (q := 65) d_Mod_findBest_62 fk_Mod_25 fv_70_12 rfl ?_
        refine j_iload_n (i := 2) (x := x2) (q := 66) d_Mod_findBest_65 rfl rfl rfl ?_
        refine j_iconst (v := 1) (q := 67) d_Mod_findBest_66 (by decide) rfl ?_
        refine j_iadd (q := 68) d_Mod_findBest_67 rfl ?_
        refine j_callVi (a := 70) (S := []) (q := 71) [.ref 76, .int (x2 + (1 : Int32))] d_Mod_findBest_68 mw_Mod_room mv_Mod_room ml_Mod_121 ob_70 rfl rfl (c_Mod_room hK 76 ai_76 (x2 + (1 : Int32)) X Y) ⟨⟨rfl, rfl⟩, ⟨Nat.le_of_ble_eq_true rfl, Nat.le_of_ble_eq_true rfl⟩, ⟨Nat.le_refl 0, Nat.le_refl 0⟩⟩ (Nat.le_of_ble_eq_true rfl) rfl (fun r12 X10 Y11 => ?_)
        refine j_iload_n (i := 3) (x := m3) (q := 72) d_Mod_findBest_71 rfl rfl rfl ?_
        refine j_icmp_lt (t := 156) (q := 75) d_Mod_findBest_72 (by decide) rfl ?_ ?_
        · refine j_sub (L' := [some (.ref 70), some (.int x1), some (.int x2), some (.int m3), none]) ⟨rfl, ⟨rfl, ⟨rfl, ⟨rfl, trivial⟩⟩⟩⟩ ?_
          exact jb_Mod_findBest_156 hK (fun a3 A B => l_Mod_findBest_44 x1 x2 kx n a3 A B) kx x1 x2 m3 ih hkx X10 Y11
        · refine j_aload_n (i := 0) (x := 70) (q := 76) d_Mod_findBest_75 rfl rfl rfl ?_
          refine j_callVv (a := 70) (S := []) (q := 79) [] d_Mod_findBest_76 mw_Mod_begin mv_Mod_begin ml_Mod_182 ob_70 rfl rfl (c_Mod_begin hK X10 Y11) ⟨⟨rfl, rfl⟩, ⟨Nat.le_of_ble_eq_true rfl, Nat.le_of_ble_eq_true rfl⟩, ⟨Nat.le_refl 0, Nat.le_refl 0⟩⟩ (Nat.le_of_ble_eq_true rfl) rfl (fun X13 Y14 => ?_)
          refine j_aload_n (i := 0) (x := 70) (q := 80) d_Mod_findBest_79 rfl rfl rfl ?_
          refine j_get (v := .ref 77) (q := 83) d_Mod_findBest_80 fk_Mod_28 fv_70_13 rfl ?_
          refine j_iload_n (i := 2) (x := x2) (q := 84) d_Mod_findBest_83 rfl rfl rfl ?_
          refine j_iload_n (i := 3) (x := m3) (q := 85) d_Mod_findBest_84 rfl rfl rfl ?_
          refine j_callSi (S := []) (q := 88) [.ref 77, .int x2, .int m3] d_Mod_findBest_85 mw_Mod_goLet ms_Mod_goLet ml_Mod_128 rfl rfl (c_Mod_goLet hK 77 ai_77 x2 m3 X13 Y14) ⟨⟨rfl, rfl⟩, ⟨Nat.le_of_ble_eq_true rfl, Nat.le_of_ble_eq_true rfl⟩, ⟨Nat.le_refl 0, Nat.le_refl 0⟩⟩ (Nat.le_of_ble_eq_true rfl) rfl (fun r17 X15 Y16 => ?_)
          refine j_pop (q := 89) d_Mod_findBest_88 rfl rfl ?_
          refine j_aload_n (i := 0) (x := 70) (q := 90) d_Mod_findBest_89 rfl rfl rfl ?_
          refine j_aload_n (i := 0) (x := 70) (q := 91) d_Mod_findBest_90 rfl rfl rfl ?_
          refine j_get (v := .ref 77) (q := 94) d_Mod_findBest_91 fk_Mod_28 fv_70_13 rfl ?_
          refine j_iload_n (i := 1) (x := x1) (q := 95) d_Mod_findBest_94 rfl rfl rfl ?_
          refine j_callVv (a := 70) (S := []) (q := 98) [.ref 77, .int x1] d_Mod_findBest_95 mw_Mod_goDays mv_Mod_goDays ml_Mod_185 ob_70 rfl rfl (c_Mod_goDays hK 77 ai_77 x1 X15 Y16) ⟨⟨rfl, rfl⟩, ⟨Nat.le_of_ble_eq_true rfl, Nat.le_of_ble_eq_true rfl⟩, ⟨Nat.le_refl 0, Nat.le_refl 0⟩⟩ (Nat.le_of_ble_eq_true rfl) rfl (fun X18 Y19 => ?_)
          refine j_aload_n (i := 0) (x := 70) (q := 99) d_Mod_findBest_98 rfl rfl rfl ?_
          refine j_aload_n (i := 0) (x := 70) (q := 100) d_Mod_findBest_99 rfl rfl rfl ?_
          refine j_get (v := .ref 77) (q := 103) d_Mod_findBest_100 fk_Mod_28 fv_70_13 rfl ?_
          refine j_callVi (a := 70) (S := []) (q := 106) [.ref 77] d_Mod_findBest_103 mw_Mod_crustOfAll mv_Mod_crustOfAll ml_Mod_150 ob_70 rfl rfl (c_Mod_crustOfAll hK 77 ai_77 X18 Y19) ⟨⟨rfl, rfl⟩, ⟨Nat.le_of_ble_eq_true rfl, Nat.le_of_ble_eq_true rfl⟩, ⟨Nat.le_refl 0, Nat.le_refl 0⟩⟩ (Nat.le_of_ble_eq_true rfl) rfl (fun r22 X20 Y21 => ?_)
          refine j_istore (i := 4) (L' := [some (.ref 70), some (.int x1), some (.int x2), some (.int m3), some (.int r22)]) (q := 108) d_Mod_findBest_106 (by decide) rfl rfl rfl ?_
          refine j_aload_n (i := 0) (x := 70) (q := 109) d_Mod_findBest_108 rfl rfl rfl ?_
          refine j_iload (i := 4) (x := r22) (q := 111) d_Mod_findBest_109 rfl rfl ?_
          refine j_aload_n (i := 0) (x := 70) (q := 112) d_Mod_findBest_111 rfl rfl rfl ?_
          refine j_get (v := .int (X20 70 23)) (q := 115) d_Mod_findBest_112 fk_Mod_188 fv_70_23 rfl ?_
          refine j_icmp_le (t := 127) (q := 118) d_Mod_findBest_115 (by decide) rfl ?_ ?_
          · refine j_aload_n (i := 0) (x := 70) (q := 128) d_Mod_findBest_127 rfl rfl rfl ?_
            refine j_get (v := .int (X20 70 24)) (q := 131) d_Mod_findBest_128 fk_Mod_191 fv_70_24 rfl ?_
            refine j_sub (L' := [some (.ref 70), some (.int x1), some (.int x2), some (.int m3), some (.int r22)]) ⟨rfl, ⟨rfl, ⟨rfl, ⟨rfl, ⟨rfl, trivial⟩⟩⟩⟩⟩ ?_
            exact jb_Mod_findBest_131 hK (fun a3 A B => l_Mod_findBest_44 x1 x2 kx n a3 A B) kx x1 x2 m3 r22 (X20 70 24) ih hkx X20 Y21
          · refine j_bipush (v := 10) (q := 120) d_Mod_findBest_118 (by decide +kernel) rfl ?_
            refine j_iload_n (i := 2) (x := x2) (q := 121) d_Mod_findBest_120 rfl rfl rfl ?_
            refine j_imul (q := 122) d_Mod_findBest_121 rfl ?_
            refine j_iload_n (i := 3) (x := m3) (q := 123) d_Mod_findBest_122 rfl rfl rfl ?_
            refine j_iadd (q := 124) d_Mod_findBest_123 rfl ?_
            refine j_goto (q := 131) d_Mod_findBest_124 (by decide) ?_
            refine j_sub (L' := [some (.ref 70), some (.int x1), some (.int x2), some (.int m3), some (.int r22)]) ⟨rfl, ⟨rfl, ⟨rfl, ⟨rfl, ⟨rfl, trivial⟩⟩⟩⟩⟩ ?_
            exact jb_Mod_findBest_131 hK (fun a3 A B => l_Mod_findBest_44 x1 x2 kx n a3 A B) kx x1 x2 m3 r22 (((10 : Int32) * x2) + m3) ih hkx X20 Y21
set_option maxRecDepth 4000 in
theorem jl_Mod_findBest_32 {K : KK} (hK : kOK K) (x1 : Int32) (kx : Int32 → HI → HL → Option Out) (hkx : ∀ (m2 : Int32) (X : HI) (Y : HL), JO K "BrinePansModel" prog_8_method_47_code 5 none rm_Mod_findBest 0 0 (MZ K) 168 [none, none, none, none, none] [] X Y (kx m2 X Y)) : ∀ (n : Nat) (m2 : Int32) (X : HI) (Y : HL), JO K "BrinePansModel" prog_8_method_47_code 5 none rm_Mod_findBest 0 0 (MZ K) 32 [some (.ref 70), some (.int x1), some (.int m2), none, none] [] X Y (l_Mod_findBest_32 x1 kx n m2 X Y) := by
  intro n
  induction n with
  | zero =>
    intro m2 X Y
    rw [l_Mod_findBest_32]
    exact j_none
  | succ n ih =>
    intro m2 X Y
    rw [l_Mod_findBest_32]
    refine j_iload_n (i := 2) (x := m2) (q := 33) d_Mod_findBest_32 rfl rfl rfl ?_
    refine j_aload_n (i := 0) (x := 70) (q := 34) d_Mod_findBest_33 rfl rfl rfl ?_
    refine j_get (v := .int (X 70 4)) (q := 37) d_Mod_findBest_34 fk_Mod_60 fv_70_4 rfl ?_
    refine j_iconst (v := 1) (q := 38) d_Mod_findBest_37 (by decide) rfl ?_
    refine j_isub (q := 39) d_Mod_findBest_38 rfl ?_
    refine j_icmp_ge (t := 168) (q := 42) d_Mod_findBest_39 (by decide) rfl ?_ ?_
    · refine j_sub (L' := [none, none, none, none, none]) trivial ?_
      exact hkx m2 X Y
    · refine j_iconst (v := 1) (q := 43) d_Mod_findBest_42 (by decide) rfl ?_
      refine j_istore_n (i := 3) (L' := [some (.ref 70), some (.int x1), some (.int m2), some (.int (1 : Int32)), none]) (q := 44) d_Mod_findBest_43 rfl (by decide) rfl rfl rfl ?_
      refine j_sub (L' := [some (.ref 70), some (.int x1), some (.int m2), some (.int (1 : Int32)), none]) ⟨rfl, ⟨rfl, ⟨rfl, ⟨rfl, trivial⟩⟩⟩⟩ ?_
      refine jl_Mod_findBest_44 hK x1 m2 _ (fun w25 X26 Y27 => ?_) 256 (1 : Int32) X Y
      refine j_iinc (i := 2) (x := m2) (d := 1) (L' := [some (.ref 70), some (.int x1), some (.int (m2 + (1 : Int32))), none, none]) (q := 165) d_Mod_findBest_162 rfl (by decide) (by decide) rfl rfl rfl ?_
      refine j_goto (q := 32) d_Mod_findBest_165 (by decide) ?_
      refine j_sub (L' := [some (.ref 70), some (.int x1), some (.int (m2 + (1 : Int32))), none, none]) ⟨rfl, ⟨rfl, ⟨rfl, trivial⟩⟩⟩ ?_
      exact ih (m2 + (1 : Int32)) X26 Y27
set_option maxRecDepth 4000 in
theorem c_Mod_findBest {K : KK} (hK : kOK K) (x1 : Int32) (X : HI) (Y : HL) : CT K y_Mod_findBest prog_8_method_47_code 5 none rm_Mod_findBest [.ref 70, .int x1] X Y (f_Mod_findBest x1 X Y) := by
  refine ct_of hK (L := [some (.ref 70), some (.int x1), none, none, none]) (by decide) ⟨rfl, ⟨rfl, trivial⟩⟩ (Nat.le_of_ble_eq_true rfl) ?_
  unfold f_Mod_findBest
  refine j_aload_n (i := 0) (x := 70) (q := 1) d_Mod_findBest_0 rfl rfl rfl ?_
  refine j_callVv (a := 70) (S := []) (q := 4) [] d_Mod_findBest_1 mw_Mod_begin mv_Mod_begin ml_Mod_182 ob_70 rfl rfl (c_Mod_begin hK X Y) ⟨⟨rfl, rfl⟩, ⟨Nat.le_of_ble_eq_true rfl, Nat.le_of_ble_eq_true rfl⟩, ⟨Nat.le_refl 0, Nat.le_refl 0⟩⟩ (Nat.le_of_ble_eq_true rfl) rfl (fun X1 Y2 => ?_)
  refine j_aload_n (i := 0) (x := 70) (q := 5) d_Mod_findBest_4 rfl rfl rfl ?_
  refine j_aload_n (i := 0) (x := 70) (q := 6) d_Mod_findBest_5 rfl rfl rfl ?_
  refine j_get (v := .ref 77) (q := 9) d_Mod_findBest_6 fk_Mod_28 fv_70_13 rfl ?_
  refine j_iload_n (i := 1) (x := x1) (q := 10) d_Mod_findBest_9 rfl rfl rfl ?_
  refine j_callVv (a := 70) (S := []) (q := 13) [.ref 77, .int x1] d_Mod_findBest_10 mw_Mod_goDays mv_Mod_goDays ml_Mod_185 ob_70 rfl rfl (c_Mod_goDays hK 77 ai_77 x1 X1 Y2) ⟨⟨rfl, rfl⟩, ⟨Nat.le_of_ble_eq_true rfl, Nat.le_of_ble_eq_true rfl⟩, ⟨Nat.le_refl 0, Nat.le_refl 0⟩⟩ (Nat.le_of_ble_eq_true rfl) rfl (fun X3 Y4 => ?_)
  refine j_aload_n (i := 0) (x := 70) (q := 14) d_Mod_findBest_13 rfl rfl rfl ?_
  refine j_aload_n (i := 0) (x := 70) (q := 15) d_Mod_findBest_14 rfl rfl rfl ?_
  refine j_aload_n (i := 0) (x := 70) (q := 16) d_Mod_findBest_15 rfl rfl rfl ?_
  refine j_get (v := .ref 77) (q := 19) d_Mod_findBest_16 fk_Mod_28 fv_70_13 rfl ?_
  refine j_callVi (a := 70) (S := [.ref 70]) (q := 22) [.ref 77] d_Mod_findBest_19 mw_Mod_crustOfAll mv_Mod_crustOfAll ml_Mod_150 ob_70 rfl rfl (c_Mod_crustOfAll hK 77 ai_77 X3 Y4) ⟨⟨rfl, rfl⟩, ⟨Nat.le_of_ble_eq_true rfl, Nat.le_of_ble_eq_true rfl⟩, ⟨Nat.le_refl 0, Nat.le_refl 0⟩⟩ (Nat.le_of_ble_eq_true rfl) rfl (fun r7 X5 Y6 => ?_)
  refine j_putI (q := 25) d_Mod_findBest_22 fp_Mod_188 fw_70_23 rfl (fun X8 => ?_)
  refine j_aload_n (i := 0) (x := 70) (q := 26) d_Mod_findBest_25 rfl rfl rfl ?_
  refine j_iconst (v := 0) (q := 27) d_Mod_findBest_26 (by decide) rfl ?_
  refine j_putI (q := 30) d_Mod_findBest_27 fp_Mod_191 fw_70_24 rfl (fun X9 => ?_)
  refine j_iconst (v := 0) (q := 31) d_Mod_findBest_30 (by decide) rfl ?_
  refine j_istore_n (i := 2) (L' := [some (.ref 70), some (.int x1), some (.int (0 : Int32)), none, none]) (q := 32) d_Mod_findBest_31 rfl (by decide) rfl rfl rfl ?_
  refine j_sub (L' := [some (.ref 70), some (.int x1), some (.int (0 : Int32)), none, none]) ⟨rfl, ⟨rfl, ⟨rfl, trivial⟩⟩⟩ ?_
  refine jl_Mod_findBest_32 hK x1 _ (fun w28 X29 Y30 => ?_) 256 (0 : Int32) X9 Y6
  exact j_vret d_Mod_findBest_168
def f_Mod_best (x1 : Int32) (x2 : Int32) (X : HI) (Y : HL) : Option Out :=
    lh (up X 70 0 (0 : Int32)) (fun X1 =>
    bi (f_Mod_in (x1.toInt64) (1 : Int64) (9 : Int64) X1 Y) (fun r4 X2 Y3 =>
    (if r4 = 0 then
    (rI (-2 : Int32) X2 Y3)
    else
    bi (f_Mod_in (x2.toInt64) (0 : Int64) (1 : Int64) X2 Y3) (fun r7 X5 Y6 =>
    (if r7 = 0 then
    (rI (-2 : Int32) X5 Y6)
    else
    bv (f_Mod_findBest x1 X5 Y6) (fun X8 Y9 =>
    (if x2 = 0 then
    (rI (X8 70 23) X8 Y9)
    else
    (rI (X8 70 24) X8 Y9))))))))
set_option maxRecDepth 4000 in
theorem c_Mod_best {K : KK} (hK : kOK K) (x1 : Int32) (x2 : Int32) (X : HI) (Y : HL) : CT K y_Mod_best prog_8_method_48_code 3 (some .int) rm_Mod_best [.ref 70, .int x1, .int x2] X Y (f_Mod_best x1 x2 X Y) := by
  refine ct_of hK (L := [some (.ref 70), some (.int x1), some (.int x2)]) (by decide) ⟨rfl, ⟨rfl, ⟨rfl, trivial⟩⟩⟩ (Nat.le_of_ble_eq_true rfl) ?_
  unfold f_Mod_best
  refine j_aload_n (i := 0) (x := 70) (q := 1) d_Mod_best_0 rfl rfl rfl ?_
  refine j_iconst (v := 0) (q := 2) d_Mod_best_1 (by decide) rfl ?_
  refine j_putI (q := 5) d_Mod_best_2 fp_Mod_56 fw_70_0 rfl (fun X1 => ?_)
  refine j_iload_n (i := 1) (x := x1) (q := 6) d_Mod_best_5 rfl rfl rfl ?_
  refine j_i2l (q := 7) d_Mod_best_6 rfl ?_
  refine j_lconst (v := 1) (q := 8) d_Mod_best_7 (by decide) rfl ?_
  refine j_ldc2 (v := 9) (q := 11) d_Mod_best_8 (gw_t 747 (by decide +kernel) (by decide +kernel)) rfl ?_
  refine j_callSi (S := []) (q := 14) [.long x1.toInt64, .long (1 : Int64), .long (9 : Int64)] d_Mod_best_11 mw_Mod_in ms_Mod_in ml_Mod_63 rfl rfl (c_Mod_in hK (x1.toInt64) (1 : Int64) (9 : Int64) X1 Y) ⟨⟨rfl, rfl⟩, ⟨Nat.le_of_ble_eq_true rfl, Nat.le_of_ble_eq_true rfl⟩, ⟨Nat.le_refl 0, Nat.le_refl 0⟩⟩ (Nat.le_of_ble_eq_true rfl) rfl (fun r4 X2 Y3 => ?_)
  refine j_if_eq (t := 27) (q := 17) d_Mod_best_14 (by decide) rfl ?_ ?_
  · refine j_bipush (v := -2) (q := 29) d_Mod_best_27 (by decide +kernel) rfl ?_
    exact j_iret d_Mod_best_29
  · refine j_iload_n (i := 2) (x := x2) (q := 18) d_Mod_best_17 rfl rfl rfl ?_
    refine j_i2l (q := 19) d_Mod_best_18 rfl ?_
    refine j_lconst (v := 0) (q := 20) d_Mod_best_19 (by decide) rfl ?_
    refine j_lconst (v := 1) (q := 21) d_Mod_best_20 (by decide) rfl ?_
    refine j_callSi (S := []) (q := 24) [.long x2.toInt64, .long (0 : Int64), .long (1 : Int64)] d_Mod_best_21 mw_Mod_in ms_Mod_in ml_Mod_63 rfl rfl (c_Mod_in hK (x2.toInt64) (0 : Int64) (1 : Int64) X2 Y3) ⟨⟨rfl, rfl⟩, ⟨Nat.le_of_ble_eq_true rfl, Nat.le_of_ble_eq_true rfl⟩, ⟨Nat.le_refl 0, Nat.le_refl 0⟩⟩ (Nat.le_of_ble_eq_true rfl) rfl (fun r7 X5 Y6 => ?_)
    refine j_if_ne (t := 30) (q := 27) d_Mod_best_24 (by decide) rfl ?_ ?_
    · refine j_aload_n (i := 0) (x := 70) (q := 31) d_Mod_best_30 rfl rfl rfl ?_
      refine j_iload_n (i := 1) (x := x1) (q := 32) d_Mod_best_31 rfl rfl rfl ?_
      refine j_callVv (a := 70) (S := []) (q := 35) [.int x1] d_Mod_best_32 mw_Mod_findBest mv_Mod_findBest ml_Mod_194 ob_70 rfl rfl (c_Mod_findBest hK x1 X5 Y6) ⟨⟨rfl, rfl⟩, ⟨Nat.le_of_ble_eq_true rfl, Nat.le_of_ble_eq_true rfl⟩, ⟨Nat.le_refl 0, Nat.le_refl 0⟩⟩ (Nat.le_of_ble_eq_true rfl) rfl (fun X8 Y9 => ?_)
      refine j_iload_n (i := 2) (x := x2) (q := 36) d_Mod_best_35 rfl rfl rfl ?_
      refine j_if_ne (t := 46) (q := 39) d_Mod_best_36 (by decide) rfl ?_ ?_
      · refine j_aload_n (i := 0) (x := 70) (q := 47) d_Mod_best_46 rfl rfl rfl ?_
        refine j_get (v := .int (X8 70 24)) (q := 50) d_Mod_best_47 fk_Mod_191 fv_70_24 rfl ?_
        exact j_iret d_Mod_best_50
      · refine j_aload_n (i := 0) (x := 70) (q := 40) d_Mod_best_39 rfl rfl rfl ?_
        refine j_get (v := .int (X8 70 23)) (q := 43) d_Mod_best_40 fk_Mod_188 fv_70_23 rfl ?_
        refine j_goto (q := 50) d_Mod_best_43 (by decide) ?_
        exact j_iret d_Mod_best_50
    · refine j_bipush (v := -2) (q := 29) d_Mod_best_27 (by decide +kernel) rfl ?_
      exact j_iret d_Mod_best_29
def b_Mod_gates_126 (kc : Int32 → Int32 → HI → HL → Option Out) (kx : Int32 → Int32 → HI → HL → Option Out) (x1 : Int32) (x2 : Int32) (x3 : Int32) (x4 : Int32) (x5 : Int32) (X : HI) (Y : HL) : Option Out :=
    (kc x3 (x5 + (1 : Int32)) X Y)
def b_Mod_gates_125 (kc : Int32 → Int32 → HI → HL → Option Out) (kx : Int32 → Int32 → HI → HL → Option Out) (x1 : Int32) (x2 : Int32) (x4 : Int32) (x5 : Int32) (s0 : Int32) (X : HI) (Y : HL) : Option Out :=
    (b_Mod_gates_126 kc kx x1 x2 s0 x4 x5 X Y)
def b_Mod_gates_85 (kc : Int32 → Int32 → HI → HL → Option Out) (kx : Int32 → Int32 → HI → HL → Option Out) (x1 : Int32) (x2 : Int32) (x3 : Int32) (x4 : Int32) (x5 : Int32) (X : HI) (Y : HL) : Option Out :=
    bv (f_Mod_begin X Y) (fun X8 Y9 =>
    wr (ixb (12 : Int32) 15) (up X8 77 (12 : Int32).toNatClampNeg x5) (fun X10 =>
    bv (f_Mod_goDays 77 x1 X10 Y9) (fun X11 Y12 =>
    bi (f_Mod_crustOfAll 77 X11 Y12) (fun r15 X13 Y14 =>
    (if r15 < x2 then
    (b_Mod_gates_125 kc kx x1 x2 x4 x5 x3 X13 Y14)
    else
    (b_Mod_gates_125 kc kx x1 x2 x4 x5 x5 X13 Y14))))))
def l_Mod_gates_60 (x1 : Int32) (x2 : Int32) (x4 : Int32) (kx : Int32 → Int32 → HI → HL → Option Out) : Nat → Int32 → Int32 → HI → HL → Option Out
  | 0, _, _, _, _ => none
  | n + 1, m3, m5, X, Y =>
    (if x4 ≤ m5 then
    (kx m3 m5 X Y)
    else
    (if m3 = (-9 : Int32) then
    (b_Mod_gates_85 (fun a3 a5 A B => l_Mod_gates_60 x1 x2 x4 kx n a3 a5 A B) kx x1 x2 m3 x4 m5 X Y)
    else
    bi (f_Mod_many m5 X Y) (fun r18 X16 Y17 =>
    bi (f_Mod_many m3 X16 Y17) (fun r21 X19 Y20 =>
    (if r21 ≤ r18 then
    (b_Mod_gates_126 (fun a3 a5 A B => l_Mod_gates_60 x1 x2 x4 kx n a3 a5 A B) kx x1 x2 m3 x4 m5 X19 Y20)
    else
    (b_Mod_gates_85 (fun a3 a5 A B => l_Mod_gates_60 x1 x2 x4 kx n a3 a5 A B) kx x1 x2 m3 x4 m5 X19 Y20))))))
def b_Mod_gates_55 (x1 : Int32) (x2 : Int32) (x3 : Int32) (s0 : Int32) (X : HI) (Y : HL) : Option Out :=
    (l_Mod_gates_60 x1 x2 s0 (fun w22 w23 X24 Y25 =>
    (rI w22 X24 Y25)) 256 x3 (0 : Int32) X Y)
def f_Mod_gates (x1 : Int32) (x2 : Int32) (X : HI) (Y : HL) : Option Out :=
    lh (up X 70 0 (0 : Int32)) (fun X1 =>
    bi (f_Mod_in (x1.toInt64) (1 : Int64) (9 : Int64) X1 Y) (fun r4 X2 Y3 =>
    (if r4 = 0 then
    (rI (-2 : Int32) X2 Y3)
    else
    bi (f_Mod_in (x2.toInt64) (0 : Int64) (999 : Int64) X2 Y3) (fun r7 X5 Y6 =>
    (if r7 = 0 then
    (rI (-2 : Int32) X5 Y6)
    else
    (if (2 : Int32) ≤ (X5 70 4) then
    (b_Mod_gates_55 x1 x2 (-9 : Int32) ((1 : Int32) <<< (((X5 70 4) - (1 : Int32)) &&& 31)) X5 Y6)
    else
    (b_Mod_gates_55 x1 x2 (-9 : Int32) (1 : Int32) X5 Y6)))))))
set_option maxRecDepth 4000 in
theorem jb_Mod_gates_126 {K : KK} (hK : kOK K) (kc : Int32 → Int32 → HI → HL → Option Out) (kx : Int32 → Int32 → HI → HL → Option Out) (x1 : Int32) (x2 : Int32) (x3 : Int32) (x4 : Int32) (x5 : Int32) (hkc : ∀ (m3 : Int32) (m5 : Int32) (X : HI) (Y : HL), JO K "BrinePansModel" prog_8_method_49_code 6 (some .int) rm_Mod_gates 0 0 (MZ K) 60 [some (.ref 70), some (.int x1), some (.int x2), some (.int m3), some (.int x4), some (.int m5)] [] X Y (kc m3 m5 X Y)) (hkx : ∀ (m3 : Int32) (m5 : Int32) (X : HI) (Y : HL), JO K "BrinePansModel" prog_8_method_49_code 6 (some .int) rm_Mod_gates 0 0 (MZ K) 132 [none, none, none, some (.int m3), none, none] [] X Y (kx m3 m5 X Y)) (X : HI) (Y : HL) : JO K "BrinePansModel" prog_8_method_49_code 6 (some .int) rm_Mod_gates 0 0 (MZ K) 126 [some (.ref 70), some (.int x1), some (.int x2), some (.int x3), some (.int x4), some (.int x5)] [] X Y (b_Mod_gates_126 kc kx x1 x2 x3 x4 x5 X Y) := by
  unfold b_Mod_gates_126
  refine j_iinc (i := 5) (x := x5) (d := 1) (L' := [some (.ref 70), some (.int x1), some (.int x2), some (.int x3), some (.int x4), some (.int (x5 + (1 : Int32)))]) (q := 129) d_Mod_gates_126 rfl (by decide) (by decide) rfl rfl rfl ?_
  refine j_goto (q := 60) d_Mod_gates_129 (by decide) ?_
  refine j_sub (L' := [some (.ref 70), some (.int x1), some (.int x2), some (.int x3), some (.int x4), some (.int (x5 + (1 : Int32)))]) ⟨rfl, ⟨rfl, ⟨rfl, ⟨rfl, ⟨rfl, ⟨rfl, trivial⟩⟩⟩⟩⟩⟩ ?_
  exact hkc x3 (x5 + (1 : Int32)) X Y
set_option maxRecDepth 4000 in
theorem jb_Mod_gates_125 {K : KK} (hK : kOK K) (kc : Int32 → Int32 → HI → HL → Option Out) (kx : Int32 → Int32 → HI → HL → Option Out) (x1 : Int32) (x2 : Int32) (x4 : Int32) (x5 : Int32) (s0 : Int32) (hkc : ∀ (m3 : Int32) (m5 : Int32) (X : HI) (Y : HL), JO K "BrinePansModel" prog_8_method_49_code 6 (some .int) rm_Mod_gates 0 0 (MZ K) 60 [some (.ref 70), some (.int x1), some (.int x2), some (.int m3), some (.int x4), some (.int m5)] [] X Y (kc m3 m5 X Y)) (hkx : ∀ (m3 : Int32) (m5 : Int32) (X : HI) (Y : HL), JO K "BrinePansModel" prog_8_method_49_code 6 (some .int) rm_Mod_gates 0 0 (MZ K) 132 [none, none, none, some (.int m3), none, none] [] X Y (kx m3 m5 X Y)) (X : HI) (Y : HL) : JO K "BrinePansModel" prog_8_method_49_code 6 (some .int) rm_Mod_gates 0 0 (MZ K) 125 [some (.ref 70), some (.int x1), some (.int x2), none, some (.int x4), some (.int x5)] [.int s0] X Y (b_Mod_gates_125 kc kx x1 x2 x4 x5 s0 X Y) := by
  unfold b_Mod_gates_125
  refine j_istore_n (i := 3) (L' := [some (.ref 70), some (.int x1), some (.int x2), some (.int s0), some (.int x4), some (.int x5)]) (q := 126) d_Mod_gates_125 rfl (by decide) rfl rfl rfl ?_
  refine j_sub (L' := [some (.ref 70), some (.int x1), some (.int x2), some (.int s0), some (.int x4), some (.int x5)]) ⟨rfl, ⟨rfl, ⟨rfl, ⟨rfl, ⟨rfl, ⟨rfl, trivial⟩⟩⟩⟩⟩⟩ ?_
  exact jb_Mod_gates_126 hK kc kx x1 x2 s0 x4 x5 hkc hkx X Y
set_option maxRecDepth 4000 in
theorem jb_Mod_gates_85 {K : KK} (hK : kOK K) (kc : Int32 → Int32 → HI → HL → Option Out) (kx : Int32 → Int32 → HI → HL → Option Out) (x1 : Int32) (x2 : Int32) (x3 : Int32) (x4 : Int32) (x5 : Int32) (hkc : ∀ (m3 : Int32) (m5 : Int32) (X : HI) (Y : HL), JO K "BrinePansModel" prog_8_method_49_code 6 (some .int) rm_Mod_gates 0 0 (MZ K) 60 [some (.ref 70), some (.int x1), some (.int x2), some (.int m3), some (.int x4), some (.int m5)] [] X Y (kc m3 m5 X Y)) (hkx : ∀ (m3 : Int32) (m5 : Int32) (X : HI) (Y : HL), JO K "BrinePansModel" prog_8_method_49_code 6 (some .int) rm_Mod_gates 0 0 (MZ K) 132 [none, none, none, some (.int m3), none, none] [] X Y (kx m3 m5 X Y)) (X : HI) (Y : HL) : JO K "BrinePansModel" prog_8_method_49_code 6 (some .int) rm_Mod_gates 0 0 (MZ K) 85 [some (.ref 70), some (.int x1), some (.int x2), some (.int x3), some (.int x4), some (.int x5)] [] X Y (b_Mod_gates_85 kc kx x1 x2 x3 x4 x5 X Y) := by
  unfold b_Mod_gates_85
  refine j_aload_n (i := 0) (x := 70) (q := 86) d_Mod_gates_85 rfl rfl rfl ?_
  refine j_callVv (a := 70) (S := []) (q := 89) [] d_Mod_gates_86 mw_Mod_begin mv_Mod_begin ml_Mod_182 ob_70 rfl rfl (c_Mod_begin hK X Y) ⟨⟨rfl, rfl⟩, ⟨Nat.le_of_ble_eq_true rfl, Nat.le_of_ble_eq_true rfl⟩, ⟨Nat.le_refl 0, Nat.le_refl 0⟩⟩ (Nat.le_of_ble_eq_true rfl) rfl (fun X8 Y9 => ?_)
  refine j_aload_n (i := 0) (x := 70) (q := 90) d_Mod_gates_89 rfl rfl rfl ?_
  refine j_get (v := .ref 77) (q := 93) d_Mod_gates_90 fk_Mod_28 fv_70_13 rfl ?_
  refine j_bipush (v := 12) (q := 95) d_Mod_gates_93 (by decide +kernel) rfl ?_
  refine j_iload (i := 5) (x := x5) (q := 97) d_Mod_gates_95 rfl rfl ?_
  refine j_iast (q := 98) d_Mod_gates_97 ai_77 rfl (fun X10 => ?_)
  refine j_aload_n (i := 0) (x := 70) (q := 99) d_Mod_gates_98 rfl rfl rfl ?_
  refine j_aload_n (i := 0) (x := 70) (q := 100) d_Mod_gates_99 rfl rfl rfl ?_
  refine j_get (v := .ref 77) (q := 103) d_Mod_gates_100 fk_Mod_28 fv_70_13 rfl ?_
  refine j_iload_n (i := 1) (x := x1) (q := 104) d_Mod_gates_103 rfl rfl rfl ?_
  refine j_callVv (a := 70) (S := []) (q := 107) [.ref 77, .int x1] d_Mod_gates_104 mw_Mod_goDays mv_Mod_goDays ml_Mod_185 ob_70 rfl rfl (c_Mod_goDays hK 77 ai_77 x1 X10 Y9) ⟨⟨rfl, rfl⟩, ⟨Nat.le_of_ble_eq_true rfl, Nat.le_of_ble_eq_true rfl⟩, ⟨Nat.le_refl 0, Nat.le_refl 0⟩⟩ (Nat.le_of_ble_eq_true rfl) rfl (fun X11 Y12 => ?_)
  refine j_aload_n (i := 0) (x := 70) (q := 108) d_Mod_gates_107 rfl rfl rfl ?_
  refine j_aload_n (i := 0) (x := 70) (q := 109) d_Mod_gates_108 rfl rfl rfl ?_
  refine j_get (v := .ref 77) (q := 112) d_Mod_gates_109 fk_Mod_28 fv_70_13 rfl ?_
  refine j_callVi (a := 70) (S := []) (q := 115) [.ref 77] d_Mod_gates_112 mw_Mod_crustOfAll mv_Mod_crustOfAll ml_Mod_150 ob_70 rfl rfl (c_Mod_crustOfAll hK 77 ai_77 X11 Y12) ⟨⟨rfl, rfl⟩, ⟨Nat.le_of_ble_eq_true rfl, Nat.le_of_ble_eq_true rfl⟩, ⟨Nat.le_refl 0, Nat.le_refl 0⟩⟩ (Nat.le_of_ble_eq_true rfl) rfl (fun r15 X13 Y14 => ?_)
  refine j_iload_n (i := 2) (x := x2) (q := 116) d_Mod_gates_115 rfl rfl rfl ?_
  refine j_icmp_lt (t := 124) (q := 119) d_Mod_gates_116 (by decide) rfl ?_ ?_
  · refine j_iload_n (i := 3) (x := x3) (q := 125) d_Mod_gates_124 rfl rfl rfl ?_
    refine j_sub (L' := [some (.ref 70), some (.int x1), some (.int x2), none, some (.int x4), some (.int x5)]) ⟨rfl, ⟨rfl, ⟨rfl, ⟨rfl, ⟨rfl, trivial⟩⟩⟩⟩⟩ ?_
    exact jb_Mod_gates_125 hK kc kx x1 x2 x4 x5 x3 hkc hkx X13 Y14
  · refine j_iload (i := 5) (x := x5) (q := 121) d_Mod_gates_119 rfl rfl ?_
    refine j_goto (q := 125) d_Mod_gates_121 (by decide) ?_
    refine j_sub (L' := [some (.ref 70), some (.int x1), some (.int x2), none, some (.int x4), some (.int x5)]) ⟨rfl, ⟨rfl, ⟨rfl, ⟨rfl, ⟨rfl, trivial⟩⟩⟩⟩⟩ ?_
    exact jb_Mod_gates_125 hK kc kx x1 x2 x4 x5 x5 hkc hkx X13 Y14
set_option maxRecDepth 4000 in
theorem jl_Mod_gates_60 {K : KK} (hK : kOK K) (x1 : Int32) (x2 : Int32) (x4 : Int32) (kx : Int32 → Int32 → HI → HL → Option Out) (hkx : ∀ (m3 : Int32) (m5 : Int32) (X : HI) (Y : HL), JO K "BrinePansModel" prog_8_method_49_code 6 (some .int) rm_Mod_gates 0 0 (MZ K) 132 [none, none, none, some (.int m3), none, none] [] X Y (kx m3 m5 X Y)) : ∀ (n : Nat) (m3 : Int32) (m5 : Int32) (X : HI) (Y : HL), JO K "BrinePansModel" prog_8_method_49_code 6 (some .int) rm_Mod_gates 0 0 (MZ K) 60 [some (.ref 70), some (.int x1), some (.int x2), some (.int m3), some (.int x4), some (.int m5)] [] X Y (l_Mod_gates_60 x1 x2 x4 kx n m3 m5 X Y) := by
  intro n
  induction n with
  | zero =>
    intro m3 m5 X Y
    rw [l_Mod_gates_60]
    exact j_none
  | succ n ih =>
    intro m3 m5 X Y
    rw [l_Mod_gates_60]
    refine j_iload (i := 5) (x := m5) (q := 62) d_Mod_gates_60 rfl rfl ?_
    refine j_iload (i := 4) (x := x4) (q := 64) d_Mod_gates_62 rfl rfl ?_
    refine j_icmp_ge (t := 132) (q := 67) d_Mod_gates_64 (by decide) rfl ?_ ?_
    · refine j_sub (L' := [none, none, none, some (.int m3), none, none]) ⟨rfl, trivial⟩ ?_
      exact hkx m3 m5 X Y
    · refine j_iload_n (i := 3) (x := m3) (q := 68) d_Mod_gates_67 rfl rfl rfl ?_
      refine j_bipush (v := -9) (q := 70) d_Mod_gates_68 (by decide +kernel) rfl ?_
      refine j_icmp_eq (t := 85) (q := 73) d_Mod_gates_70 (by decide) rfl ?_ ?_
      · refine j_sub (L' := [some (.ref 70), some (.int x1), some (.int x2), some (.int m3), some (.int x4), some (.int m5)]) ⟨rfl, ⟨rfl, ⟨rfl, ⟨rfl, ⟨rfl, ⟨rfl, trivial⟩⟩⟩⟩⟩⟩ ?_
        exact jb_Mod_gates_85 hK (fun a3 a5 A B => l_Mod_gates_60 x1 x2 x4 kx n a3 a5 A B) kx x1 x2 m3 x4 m5 ih hkx X Y
      · refine j_iload (i := 5) (x := m5) (q := 75) d_Mod_gates_73 rfl rfl ?_
        refine j_callSi (S := []) (q := 78) [.int m5] d_Mod_gates_75 mw_Mod_many ms_Mod_many ml_Mod_200 rfl rfl (c_Mod_many hK m5 X Y) ⟨⟨rfl, rfl⟩, ⟨Nat.le_of_ble_eq_true rfl, Nat.le_of_ble_eq_true rfl⟩, ⟨Nat.le_refl 0, Nat.le_refl 0⟩⟩ (Nat.le_of_ble_eq_true rfl) rfl (fun r18 X16 Y17 => ?_)
        refine j_iload_n (i := 3) (x := m3) (q := 79) d_Mod_gates_78 rfl rfl rfl ?_
        refine j_callSi (S := [.int r18]) (q := 82) [.int m3] d_Mod_gates_79 mw_Mod_many ms_Mod_many ml_Mod_200 rfl rfl (c_Mod_many hK m3 X16 Y17) ⟨⟨rfl, rfl⟩, ⟨Nat.le_of_ble_eq_true rfl, Nat.le_of_ble_eq_true rfl⟩, ⟨Nat.le_refl 0, Nat.le_refl 0⟩⟩ (Nat.le_of_ble_eq_true rfl) rfl (fun r21 X19 Y20 => ?_)
        refine j_icmp_ge (t := 126) (q := 85) d_Mod_gates_82 (by decide) rfl ?_ ?_
        · refine j_sub (L' := [some (.ref 70), some (.int x1), some (.int x2), some (.int m3), some (.int x4), some (.int m5)]) ⟨rfl, ⟨rfl, ⟨rfl, ⟨rfl, ⟨rfl, ⟨rfl, trivial⟩⟩⟩⟩⟩⟩ ?_
          exact jb_Mod_gates_126 hK (fun a3 a5 A B => l_Mod_gates_60 x1 x2 x4 kx n a3 a5 A B) kx x1 x2 m3 x4 m5 ih hkx X19 Y20
        · refine j_sub (L' := [some (.ref 70), some (.int x1), some (.int x2), some (.int m3), some (.int x4), some (.int m5)]) ⟨rfl, ⟨rfl, ⟨rfl, ⟨rfl, ⟨rfl, ⟨rfl, trivial⟩⟩⟩⟩⟩⟩ ?_
          exact jb_Mod_gates_85 hK (fun a3 a5 A B => l_Mod_gates_60 x1 x2 x4 kx n a3 a5 A B) kx x1 x2 m3 x4 m5 ih hkx X19 Y20
set_option maxRecDepth 4000 in
theorem jb_Mod_gates_55 {K : KK} (hK : kOK K) (x1 : Int32) (x2 : Int32) (x3 : Int32) (s0 : Int32) (X : HI) (Y : HL) : JO K "BrinePansModel" prog_8_method_49_code 6 (some .int) rm_Mod_gates 0 0 (MZ K) 55 [some (.ref 70), some (.int x1), some (.int x2), some (.int x3), none, none] [.int s0] X Y (b_Mod_gates_55 x1 x2 x3 s0 X Y) := by
  unfold b_Mod_gates_55
  refine j_istore (i := 4) (L' := [some (.ref 70), some (.int x1), some (.int x2), some (.int x3), some (.int s0), none]) (q := 57) d_Mod_gates_55 (by decide) rfl rfl rfl ?_
  refine j_iconst (v := 0) (q := 58) d_Mod_gates_57 (by decide) rfl ?_
  refine j_istore (i := 5) (L' := [some (.ref 70), some (.int x1), some (.int x2), some (.int x3), some (.int s0), some (.int (0 : Int32))]) (q := 60) d_Mod_gates_58 (by decide) rfl rfl rfl ?_
  refine j_sub (L' := [some (.ref 70), some (.int x1), some (.int x2), some (.int x3), some (.int s0), some (.int (0 : Int32))]) ⟨rfl, ⟨rfl, ⟨rfl, ⟨rfl, ⟨rfl, ⟨rfl, trivial⟩⟩⟩⟩⟩⟩ ?_
  refine jl_Mod_gates_60 hK x1 x2 s0 _ (fun w22 w23 X24 Y25 => ?_) 256 x3 (0 : Int32) X Y
  refine j_iload_n (i := 3) (x := w22) (q := 133) d_Mod_gates_132 rfl rfl rfl ?_
  exact j_iret d_Mod_gates_133
set_option maxRecDepth 4000 in
theorem c_Mod_gates {K : KK} (hK : kOK K) (x1 : Int32) (x2 : Int32) (X : HI) (Y : HL) : CT K y_Mod_gates prog_8_method_49_code 6 (some .int) rm_Mod_gates [.ref 70, .int x1, .int x2] X Y (f_Mod_gates x1 x2 X Y) := by
  refine ct_of hK (L := [some (.ref 70), some (.int x1), some (.int x2), none, none, none]) (by decide) ⟨rfl, ⟨rfl, ⟨rfl, trivial⟩⟩⟩ (Nat.le_of_ble_eq_true rfl) ?_
  unfold f_Mod_gates
  refine j_aload_n (i := 0) (x := 70) (q := 1) d_Mod_gates_0 rfl rfl rfl ?_
  refine j_iconst (v := 0) (q := 2) d_Mod_gates_1 (by decide) rfl ?_
  refine j_putI (q := 5) d_Mod_gates_2 fp_Mod_56 fw_70_0 rfl (fun X1 => ?_)
  refine j_iload_n (i := 1) (x := x1) (q := 6) d_Mod_gates_5 rfl rfl rfl ?_
  refine j_i2l (q := 7) d_Mod_gates_6 rfl ?_
  refine j_lconst (v := 1) (q := 8) d_Mod_gates_7 (by decide) rfl ?_
  refine j_ldc2 (v := 9) (q := 11) d_Mod_gates_8 (gw_t 747 (by decide +kernel) (by decide +kernel)) rfl ?_
  refine j_callSi (S := []) (q := 14) [.long x1.toInt64, .long (1 : Int64), .long (9 : Int64)] d_Mod_gates_11 mw_Mod_in ms_Mod_in ml_Mod_63 rfl rfl (c_Mod_in hK (x1.toInt64) (1 : Int64) (9 : Int64) X1 Y) ⟨⟨rfl, rfl⟩, ⟨Nat.le_of_ble_eq_true rfl, Nat.le_of_ble_eq_true rfl⟩, ⟨Nat.le_refl 0, Nat.le_refl 0⟩⟩ (Nat.le_of_ble_eq_true rfl) rfl (fun r4 X2 Y3 => ?_)
  refine j_if_eq (t := 29) (q := 17) d_Mod_gates_14 (by decide) rfl ?_ ?_
  · refine j_bipush (v := -2) (q := 31) d_Mod_gates_29 (by decide +kernel) rfl ?_
    exact j_iret d_Mod_gates_31
  · refine j_iload_n (i := 2) (x := x2) (q := 18) d_Mod_gates_17 rfl rfl rfl ?_
    refine j_i2l (q := 19) d_Mod_gates_18 rfl ?_
    refine j_lconst (v := 0) (q := 20) d_Mod_gates_19 (by decide) rfl ?_
    refine j_ldc2 (v := 999) (q := 23) d_Mod_gates_20 (gw_t 808 (by decide +kernel) (by decide +kernel)) rfl ?_
    refine j_callSi (S := []) (q := 26) [.long x2.toInt64, .long (0 : Int64), .long (999 : Int64)] d_Mod_gates_23 mw_Mod_in ms_Mod_in ml_Mod_63 rfl rfl (c_Mod_in hK (x2.toInt64) (0 : Int64) (999 : Int64) X2 Y3) ⟨⟨rfl, rfl⟩, ⟨Nat.le_of_ble_eq_true rfl, Nat.le_of_ble_eq_true rfl⟩, ⟨Nat.le_refl 0, Nat.le_refl 0⟩⟩ (Nat.le_of_ble_eq_true rfl) rfl (fun r7 X5 Y6 => ?_)
    refine j_if_ne (t := 32) (q := 29) d_Mod_gates_26 (by decide) rfl ?_ ?_
    · refine j_bipush (v := -9) (q := 34) d_Mod_gates_32 (by decide +kernel) rfl ?_
      refine j_istore_n (i := 3) (L' := [some (.ref 70), some (.int x1), some (.int x2), some (.int (-9 : Int32)), none, none]) (q := 35) d_Mod_gates_34 rfl (by decide) rfl rfl rfl ?_
      refine j_aload_n (i := 0) (x := 70) (q := 36) d_Mod_gates_35 rfl rfl rfl ?_
      refine j_get (v := .int (X5 70 4)) (q := 39) d_Mod_gates_36 fk_Mod_60 fv_70_4 rfl ?_
      refine j_iconst (v := 2) (q := 40) d_Mod_gates_39 (by decide) rfl ?_
      refine j_icmp_ge (t := 47) (q := 43) d_Mod_gates_40 (by decide) rfl ?_ ?_
      · refine j_iconst (v := 1) (q := 48) d_Mod_gates_47 (by decide) rfl ?_
        refine j_aload_n (i := 0) (x := 70) (q := 49) d_Mod_gates_48 rfl rfl rfl ?_
        refine j_get (v := .int (X5 70 4)) (q := 52) d_Mod_gates_49 fk_Mod_60 fv_70_4 rfl ?_
        refine j_iconst (v := 1) (q := 53) d_Mod_gates_52 (by decide) rfl ?_
        refine j_isub (q := 54) d_Mod_gates_53 rfl ?_
        refine j_ishl (q := 55) d_Mod_gates_54 rfl ?_
        refine j_sub (L' := [some (.ref 70), some (.int x1), some (.int x2), some (.int (-9 : Int32)), none, none]) ⟨rfl, ⟨rfl, ⟨rfl, ⟨rfl, trivial⟩⟩⟩⟩ ?_
        exact jb_Mod_gates_55 hK x1 x2 (-9 : Int32) ((1 : Int32) <<< (((X5 70 4) - (1 : Int32)) &&& 31)) X5 Y6
      · refine j_iconst (v := 1) (q := 44) d_Mod_gates_43 (by decide) rfl ?_
        refine j_goto (q := 55) d_Mod_gates_44 (by decide) ?_
        refine j_sub (L' := [some (.ref 70), some (.int x1), some (.int x2), some (.int (-9 : Int32)), none, none]) ⟨rfl, ⟨rfl, ⟨rfl, ⟨rfl, trivial⟩⟩⟩⟩ ?_
        exact jb_Mod_gates_55 hK x1 x2 (-9 : Int32) (1 : Int32) X5 Y6
    · refine j_bipush (v := -2) (q := 31) d_Mod_gates_29 (by decide +kernel) rfl ?_
      exact j_iret d_Mod_gates_31
def l_Mod_longPower_5 (x0 : Int64) (x2 : Int32) (kx : Int64 → Int32 → HI → HL → Option Out) : Nat → Int64 → Int32 → HI → HL → Option Out
  | 0, _, _, _, _ => none
  | n + 1, m3, m5, X, Y =>
    (if x2 ≤ m5 then
    (kx m3 m5 X Y)
    else
    ltl (m3 * x0) (fun v1 =>
    (l_Mod_longPower_5 x0 x2 kx n v1 (m5 + (1 : Int32)) X Y)))
def f_Mod_longPower (x0 : Int64) (x2 : Int32) (X : HI) (Y : HL) : Option Out :=
    (l_Mod_longPower_5 x0 x2 (fun w2 w3 X4 Y5 =>
    (rL w2 X4 Y5)) 256 (1 : Int64) (0 : Int32) X Y)
set_option maxRecDepth 4000 in
theorem jl_Mod_longPower_5 {K : KK} (hK : kOK K) (x0 : Int64) (x2 : Int32) (kx : Int64 → Int32 → HI → HL → Option Out) (hkx : ∀ (m3 : Int64) (m5 : Int32) (X : HI) (Y : HL), JO K "BrinePansModel" prog_8_method_50_code 6 (some .long) rm_Mod_longPower 0 0 (MZ K) 21 [none, none, none, some (.long m3), none, none] [] X Y (kx m3 m5 X Y)) : ∀ (n : Nat) (m3 : Int64) (m5 : Int32) (X : HI) (Y : HL), JO K "BrinePansModel" prog_8_method_50_code 6 (some .long) rm_Mod_longPower 0 0 (MZ K) 5 [some (.long x0), none, some (.int x2), some (.long m3), none, some (.int m5)] [] X Y (l_Mod_longPower_5 x0 x2 kx n m3 m5 X Y) := by
  intro n
  induction n with
  | zero =>
    intro m3 m5 X Y
    rw [l_Mod_longPower_5]
    exact j_none
  | succ n ih =>
    intro m3 m5 X Y
    rw [l_Mod_longPower_5]
    refine j_iload (i := 5) (x := m5) (q := 7) d_Mod_longPower_5 rfl rfl ?_
    refine j_iload_n (i := 2) (x := x2) (q := 8) d_Mod_longPower_7 rfl rfl rfl ?_
    refine j_icmp_ge (t := 21) (q := 11) d_Mod_longPower_8 (by decide) rfl ?_ ?_
    · refine j_sub (L' := [none, none, none, some (.long m3), none, none]) ⟨rfl, trivial⟩ ?_
      exact hkx m3 m5 X Y
    · refine j_lload_n (i := 3) (x := m3) (q := 12) d_Mod_longPower_11 rfl rfl rfl ?_
      refine j_lload_n (i := 0) (x := x0) (q := 13) d_Mod_longPower_12 rfl rfl rfl ?_
      refine j_lmul (q := 14) d_Mod_longPower_13 rfl ?_
      refine j_ltl (fun v1 => ?_)
      refine j_lstore_n (i := 3) (L' := [some (.long x0), none, some (.int x2), some (.long v1), none, some (.int m5)]) (q := 15) d_Mod_longPower_14 rfl (by decide) rfl rfl rfl ?_
      refine j_iinc (i := 5) (x := m5) (d := 1) (L' := [some (.long x0), none, some (.int x2), some (.long v1), none, some (.int (m5 + (1 : Int32)))]) (q := 18) d_Mod_longPower_15 rfl (by decide) (by decide) rfl rfl rfl ?_
      refine j_goto (q := 5) d_Mod_longPower_18 (by decide) ?_
      refine j_sub (L' := [some (.long x0), none, some (.int x2), some (.long v1), none, some (.int (m5 + (1 : Int32)))]) ⟨rfl, ⟨rfl, ⟨rfl, ⟨rfl, trivial⟩⟩⟩⟩ ?_
      exact ih v1 (m5 + (1 : Int32)) X Y
set_option maxRecDepth 4000 in
theorem c_Mod_longPower {K : KK} (hK : kOK K) (x0 : Int64) (x2 : Int32) (X : HI) (Y : HL) : CT K y_Mod_longPower prog_8_method_50_code 6 (some .long) rm_Mod_longPower [.long x0, .int x2] X Y (f_Mod_longPower x0 x2 X Y) := by
  refine ct_of hK (L := [some (.long x0), none, some (.int x2), none, none, none]) (by decide) ⟨rfl, ⟨rfl, trivial⟩⟩ (Nat.le_of_ble_eq_true rfl) ?_
  unfold f_Mod_longPower
  refine j_lconst (v := 1) (q := 1) d_Mod_longPower_0 (by decide) rfl ?_
  refine j_lstore_n (i := 3) (L' := [some (.long x0), none, some (.int x2), some (.long (1 : Int64)), none, none]) (q := 2) d_Mod_longPower_1 rfl (by decide) rfl rfl rfl ?_
  refine j_iconst (v := 0) (q := 3) d_Mod_longPower_2 (by decide) rfl ?_
  refine j_istore (i := 5) (L' := [some (.long x0), none, some (.int x2), some (.long (1 : Int64)), none, some (.int (0 : Int32))]) (q := 5) d_Mod_longPower_3 (by decide) rfl rfl rfl ?_
  refine j_sub (L' := [some (.long x0), none, some (.int x2), some (.long (1 : Int64)), none, some (.int (0 : Int32))]) ⟨rfl, ⟨rfl, ⟨rfl, ⟨rfl, trivial⟩⟩⟩⟩ ?_
  refine jl_Mod_longPower_5 hK x0 x2 _ (fun w2 w3 X4 Y5 => ?_) 256 (1 : Int64) (0 : Int32) X Y
  refine j_lload_n (i := 3) (x := w2) (q := 22) d_Mod_longPower_21 rfl rfl rfl ?_
  exact j_lret d_Mod_longPower_22
def b_Mod_seas_29 (x1 : Int32) (s0 : Int32) (X : HI) (Y : HL) : Option Out :=
    (if s0 = 0 then
    (gd (zb s0) (rI s0 X Y))
    else
    bv (f_Mod_goSea 77 x1 X Y) (fun X1 Y2 =>
    (gd (zb s0) (rI s0 X1 Y2))))
def b_Mod_seas_28 (x1 : Int32) (X : HI) (Y : HL) : Option Out :=
    (b_Mod_seas_29 x1 (0 : Int32) X Y)
def f_Mod_seas (x1 : Int32) (X : HI) (Y : HL) : Option Out :=
    (if (X 70 4) ≤ 0 then
    (b_Mod_seas_28 x1 X Y)
    else
    (if x1 ≤ 0 then
    (b_Mod_seas_28 x1 X Y)
    else
    bi (f_Mod_room 77 (0 : Int32) X Y) (fun r5 X3 Y4 =>
    (if r5 < x1 then
    (b_Mod_seas_28 x1 X3 Y4)
    else
    (b_Mod_seas_29 x1 (1 : Int32) X3 Y4)))))
set_option maxRecDepth 4000 in
theorem jb_Mod_seas_29 {K : KK} (hK : kOK K) (x1 : Int32) (s0 : Int32) (X : HI) (Y : HL) : JO K "BrinePansModel" prog_8_method_51_code 3 (some .boolean) rm_Mod_seas 0 0 (MZ K) 29 [some (.ref 70), some (.int x1), none] [.int s0] X Y (b_Mod_seas_29 x1 s0 X Y) := by
  unfold b_Mod_seas_29
  refine j_istore_n (i := 2) (L' := [some (.ref 70), some (.int x1), some (.int s0)]) (q := 30) d_Mod_seas_29 rfl (by decide) rfl rfl rfl ?_
  refine j_iload_n (i := 2) (x := s0) (q := 31) d_Mod_seas_30 rfl rfl rfl ?_
  refine j_if_eq (t := 42) (q := 34) d_Mod_seas_31 (by decide) rfl ?_ ?_
  · refine j_iload_n (i := 2) (x := s0) (q := 43) d_Mod_seas_42 rfl rfl rfl ?_
    exact j_zretG d_Mod_seas_43
  · refine j_aload_n (i := 0) (x := 70) (q := 35) d_Mod_seas_34 rfl rfl rfl ?_
    refine j_get (v := .ref 77) (q := 38) d_Mod_seas_35 fk_Mod_28 fv_70_13 rfl ?_
    refine j_iload_n (i := 1) (x := x1) (q := 39) d_Mod_seas_38 rfl rfl rfl ?_
    refine j_callSv (S := []) (q := 42) [.ref 77, .int x1] d_Mod_seas_39 mw_Mod_goSea ms_Mod_goSea ml_Mod_168 rfl rfl (c_Mod_goSea hK 77 ai_77 x1 X Y) ⟨⟨rfl, rfl⟩, ⟨Nat.le_of_ble_eq_true rfl, Nat.le_of_ble_eq_true rfl⟩, ⟨Nat.le_refl 0, Nat.le_refl 0⟩⟩ (Nat.le_of_ble_eq_true rfl) rfl (fun X1 Y2 => ?_)
    refine j_iload_n (i := 2) (x := s0) (q := 43) d_Mod_seas_42 rfl rfl rfl ?_
    exact j_zretG d_Mod_seas_43
set_option maxRecDepth 4000 in
theorem jb_Mod_seas_28 {K : KK} (hK : kOK K) (x1 : Int32) (X : HI) (Y : HL) : JO K "BrinePansModel" prog_8_method_51_code 3 (some .boolean) rm_Mod_seas 0 0 (MZ K) 28 [some (.ref 70), some (.int x1), none] [] X Y (b_Mod_seas_28 x1 X Y) := by
  unfold b_Mod_seas_28
  refine j_iconst (v := 0) (q := 29) d_Mod_seas_28 (by decide) rfl ?_
  refine j_sub (L' := [some (.ref 70), some (.int x1), none]) ⟨rfl, ⟨rfl, trivial⟩⟩ ?_
  exact jb_Mod_seas_29 hK x1 (0 : Int32) X Y
set_option maxRecDepth 4000 in
theorem c_Mod_seas {K : KK} (hK : kOK K) (x1 : Int32) (X : HI) (Y : HL) : CT K y_Mod_seas prog_8_method_51_code 3 (some .boolean) rm_Mod_seas [.ref 70, .int x1] X Y (f_Mod_seas x1 X Y) := by
  refine ct_of hK (L := [some (.ref 70), some (.int x1), none]) (by decide) ⟨rfl, ⟨rfl, trivial⟩⟩ (Nat.le_of_ble_eq_true rfl) ?_
  unfold f_Mod_seas
  refine j_aload_n (i := 0) (x := 70) (q := 1) d_Mod_seas_0 rfl rfl rfl ?_
  refine j_get (v := .int (X 70 4)) (q := 4) d_Mod_seas_1 fk_Mod_60 fv_70_4 rfl ?_
  refine j_if_le (t := 28) (q := 7) d_Mod_seas_4 (by decide) rfl ?_ ?_
  · refine j_sub (L' := [some (.ref 70), some (.int x1), none]) ⟨rfl, ⟨rfl, trivial⟩⟩ ?_
    exact jb_Mod_seas_28 hK x1 X Y
  · refine j_iload_n (i := 1) (x := x1) (q := 8) d_Mod_seas_7 rfl rfl rfl ?_
    refine j_if_le (t := 28) (q := 11) d_Mod_seas_8 (by decide) rfl ?_ ?_
    · refine j_sub (L' := [some (.ref 70), some (.int x1), none]) ⟨rfl, ⟨rfl, trivial⟩⟩ ?_
      exact jb_Mod_seas_28 hK x1 X Y
    · refine j_aload_n (i := 0) (x := 70) (q := 12) d_Mod_seas_11 rfl rfl rfl ?_
      refine j_aload_n (i := 0) (x := 70) (q := 13) d_Mod_seas_12 rfl rfl rfl ?_
      refine j_get (v := .ref 77) (q := 16) d_Mod_seas_13 fk_Mod_28 fv_70_13 rfl ?_
      refine j_iconst (v := 0) (q := 17) d_Mod_seas_16 (by decide) rfl ?_
      refine j_callVi (a := 70) (S := []) (q := 20) [.ref 77, .int (0 : Int32)] d_Mod_seas_17 mw_Mod_room mv_Mod_room ml_Mod_121 ob_70 rfl rfl (c_Mod_room hK 77 ai_77 (0 : Int32) X Y) ⟨⟨rfl, rfl⟩, ⟨Nat.le_of_ble_eq_true rfl, Nat.le_of_ble_eq_true rfl⟩, ⟨Nat.le_refl 0, Nat.le_refl 0⟩⟩ (Nat.le_of_ble_eq_true rfl) rfl (fun r5 X3 Y4 => ?_)
      refine j_iload_n (i := 1) (x := x1) (q := 21) d_Mod_seas_20 rfl rfl rfl ?_
      refine j_icmp_lt (t := 28) (q := 24) d_Mod_seas_21 (by decide) rfl ?_ ?_
      · refine j_sub (L' := [some (.ref 70), some (.int x1), none]) ⟨rfl, ⟨rfl, trivial⟩⟩ ?_
        exact jb_Mod_seas_28 hK x1 X3 Y4
      · refine j_iconst (v := 1) (q := 25) d_Mod_seas_24 (by decide) rfl ?_
        refine j_goto (q := 29) d_Mod_seas_25 (by decide) ?_
        refine j_sub (L' := [some (.ref 70), some (.int x1), none]) ⟨rfl, ⟨rfl, trivial⟩⟩ ?_
        exact jb_Mod_seas_29 hK x1 (1 : Int32) X3 Y4
def b_Mod_lets_42 (x1 : Int32) (x2 : Int32) (s0 : Int32) (X : HI) (Y : HL) : Option Out :=
    (if s0 = 0 then
    (gd (zb s0) (rI s0 X Y))
    else
    bi (f_Mod_goLet 77 x1 x2 X Y) (fun r6 X4 Y5 =>
    (gd (zb s0) (rI s0 X4 Y5))))
def b_Mod_lets_41 (x1 : Int32) (x2 : Int32) (X : HI) (Y : HL) : Option Out :=
    (b_Mod_lets_42 x1 x2 (0 : Int32) X Y)
def f_Mod_lets (x1 : Int32) (x2 : Int32) (X : HI) (Y : HL) : Option Out :=
    bi (f_Mod_noGate x1 X Y) (fun r3 X1 Y2 =>
    (if r3 = 0 then
    (if x2 ≤ 0 then
    (b_Mod_lets_41 x1 x2 X1 Y2)
    else
    gd (ixb x1 15) (
    (if (X1 77 x1.toNatClampNeg) < x2 then
    (b_Mod_lets_41 x1 x2 X1 Y2)
    else
    bi (f_Mod_room 77 (x1 + (1 : Int32)) X1 Y2) (fun r9 X7 Y8 =>
    (if r9 < x2 then
    (b_Mod_lets_41 x1 x2 X7 Y8)
    else
    (b_Mod_lets_42 x1 x2 (1 : Int32) X7 Y8))))))
    else
    (b_Mod_lets_41 x1 x2 X1 Y2)))
set_option maxRecDepth 4000 in
theorem jb_Mod_lets_42 {K : KK} (hK : kOK K) (x1 : Int32) (x2 : Int32) (s0 : Int32) (X : HI) (Y : HL) : JO K "BrinePansModel" prog_8_method_52_code 4 (some .boolean) rm_Mod_lets 0 0 (MZ K) 42 [some (.ref 70), some (.int x1), some (.int x2), none] [.int s0] X Y (b_Mod_lets_42 x1 x2 s0 X Y) := by
  unfold b_Mod_lets_42
  refine j_istore_n (i := 3) (L' := [some (.ref 70), some (.int x1), some (.int x2), some (.int s0)]) (q := 43) d_Mod_lets_42 rfl (by decide) rfl rfl rfl ?_
  refine j_iload_n (i := 3) (x := s0) (q := 44) d_Mod_lets_43 rfl rfl rfl ?_
  refine j_if_eq (t := 57) (q := 47) d_Mod_lets_44 (by decide) rfl ?_ ?_
  · refine j_iload_n (i := 3) (x := s0) (q := 58) d_Mod_lets_57 rfl rfl rfl ?_
    exact j_zretG d_Mod_lets_58
  · refine j_aload_n (i := 0) (x := 70) (q := 48) d_Mod_lets_47 rfl rfl rfl ?_
    refine j_get (v := .ref 77) (q := 51) d_Mod_lets_48 fk_Mod_28 fv_70_13 rfl ?_
    refine j_iload_n (i := 1) (x := x1) (q := 52) d_Mod_lets_51 rfl rfl rfl ?_
    refine j_iload_n (i := 2) (x := x2) (q := 53) d_Mod_lets_52 rfl rfl rfl ?_
    refine j_callSi (S := []) (q := 56) [.ref 77, .int x1, .int x2] d_Mod_lets_53 mw_Mod_goLet ms_Mod_goLet ml_Mod_128 rfl rfl (c_Mod_goLet hK 77 ai_77 x1 x2 X Y) ⟨⟨rfl, rfl⟩, ⟨Nat.le_of_ble_eq_true rfl, Nat.le_of_ble_eq_true rfl⟩, ⟨Nat.le_refl 0, Nat.le_refl 0⟩⟩ (Nat.le_of_ble_eq_true rfl) rfl (fun r6 X4 Y5 => ?_)
    refine j_pop (q := 57) d_Mod_lets_56 rfl rfl ?_
    refine j_iload_n (i := 3) (x := s0) (q := 58) d_Mod_lets_57 rfl rfl rfl ?_
    exact j_zretG d_Mod_lets_58
set_option maxRecDepth 4000 in
theorem jb_Mod_lets_41 {K : KK} (hK : kOK K) (x1 : Int32) (x2 : Int32) (X : HI) (Y : HL) : JO K "BrinePansModel" prog_8_method_52_code 4 (some .boolean) rm_Mod_lets 0 0 (MZ K) 41 [some (.ref 70), some (.int x1), some (.int x2), none] [] X Y (b_Mod_lets_41 x1 x2 X Y) := by
  unfold b_Mod_lets_41
  refine j_iconst (v := 0) (q := 42) d_Mod_lets_41 (by decide) rfl ?_
  refine j_sub (L' := [some (.ref 70), some (.int x1), some (.int x2), none]) ⟨rfl, ⟨rfl, ⟨rfl, trivial⟩⟩⟩ ?_
  exact jb_Mod_lets_42 hK x1 x2 (0 : Int32) X Y
set_option maxRecDepth 4000 in
theorem c_Mod_lets {K : KK} (hK : kOK K) (x1 : Int32) (x2 : Int32) (X : HI) (Y : HL) : CT K y_Mod_lets prog_8_method_52_code 4 (some .boolean) rm_Mod_lets [.ref 70, .int x1, .int x2] X Y (f_Mod_lets x1 x2 X Y) := by
  refine ct_of hK (L := [some (.ref 70), some (.int x1), some (.int x2), none]) (by decide) ⟨rfl, ⟨rfl, ⟨rfl, trivial⟩⟩⟩ (Nat.le_of_ble_eq_true rfl) ?_
  unfold f_Mod_lets
  refine j_aload_n (i := 0) (x := 70) (q := 1) d_Mod_lets_0 rfl rfl rfl ?_
  refine j_iload_n (i := 1) (x := x1) (q := 2) d_Mod_lets_1 rfl rfl rfl ?_
  refine j_callVi (a := 70) (S := []) (q := 5) [.int x1] d_Mod_lets_2 mw_Mod_noGate mv_Mod_noGate ml_Mod_172 ob_70 rfl rfl (c_Mod_noGate hK x1 X Y) ⟨⟨rfl, rfl⟩, ⟨Nat.le_of_ble_eq_true rfl, Nat.le_of_ble_eq_true rfl⟩, ⟨Nat.le_refl 0, Nat.le_refl 0⟩⟩ (Nat.le_of_ble_eq_true rfl) rfl (fun r3 X1 Y2 => ?_)
  refine j_if_ne (t := 41) (q := 8) d_Mod_lets_5 (by decide) rfl ?_ ?_
  · refine j_sub (L' := [some (.ref 70), some (.int x1), some (.int x2), none]) ⟨rfl, ⟨rfl, ⟨rfl, trivial⟩⟩⟩ ?_
    exact jb_Mod_lets_41 hK x1 x2 X1 Y2
  · refine j_iload_n (i := 2) (x := x2) (q := 9) d_Mod_lets_8 rfl rfl rfl ?_
    refine j_if_le (t := 41) (q := 12) d_Mod_lets_9 (by decide) rfl ?_ ?_
    · refine j_sub (L' := [some (.ref 70), some (.int x1), some (.int x2), none]) ⟨rfl, ⟨rfl, ⟨rfl, trivial⟩⟩⟩ ?_
      exact jb_Mod_lets_41 hK x1 x2 X1 Y2
    · refine j_aload_n (i := 0) (x := 70) (q := 13) d_Mod_lets_12 rfl rfl rfl ?_
      refine j_get (v := .ref 77) (q := 16) d_Mod_lets_13 fk_Mod_28 fv_70_13 rfl ?_
      refine j_iload_n (i := 1) (x := x1) (q := 17) d_Mod_lets_16 rfl rfl rfl ?_
      refine j_iald (q := 18) d_Mod_lets_17 ai_77 rfl ?_
      refine j_iload_n (i := 2) (x := x2) (q := 19) d_Mod_lets_18 rfl rfl rfl ?_
      refine j_icmp_lt (t := 41) (q := 22) d_Mod_lets_19 (by decide) rfl ?_ ?_
      · refine j_sub (L' := [some (.ref 70), some (.int x1), some (.int x2), none]) ⟨rfl, ⟨rfl, ⟨rfl, trivial⟩⟩⟩ ?_
        exact jb_Mod_lets_41 hK x1 x2 X1 Y2
      · refine j_aload_n (i := 0) (x := 70) (q := 23) d_Mod_lets_22 rfl rfl rfl ?_
        refine j_aload_n (i := 0) (x := 70) (q := 24) d_Mod_lets_23 rfl rfl rfl ?_
        refine j_get (v := .ref 77) (q := 27) d_Mod_lets_24 fk_Mod_28 fv_70_13 rfl ?_
        refine j_iload_n (i := 1) (x := x1) (q := 28) d_Mod_lets_27 rfl rfl rfl ?_
        refine j_iconst (v := 1) (q := 29) d_Mod_lets_28 (by decide) rfl ?_
        refine j_iadd (q := 30) d_Mod_lets_29 rfl ?_
        refine j_callVi (a := 70) (S := []) (q := 33) [.ref 77, .int (x1 + (1 : Int32))] d_Mod_lets_30 mw_Mod_room mv_Mod_room ml_Mod_121 ob_70 rfl rfl (c_Mod_room hK 77 ai_77 (x1 + (1 : Int32)) X1 Y2) ⟨⟨rfl, rfl⟩, ⟨Nat.le_of_ble_eq_true rfl, Nat.le_of_ble_eq_true rfl⟩, ⟨Nat.le_refl 0, Nat.le_refl 0⟩⟩ (Nat.le_of_ble_eq_true rfl) rfl (fun r9 X7 Y8 => ?_)
        refine j_iload_n (i := 2) (x := x2) (q := 34) d_Mod_lets_33 rfl rfl rfl ?_
        refine j_icmp_lt (t := 41) (q := 37) d_Mod_lets_34 (by decide) rfl ?_ ?_
        · refine j_sub (L' := [some (.ref 70), some (.int x1), some (.int x2), none]) ⟨rfl, ⟨rfl, ⟨rfl, trivial⟩⟩⟩ ?_
          exact jb_Mod_lets_41 hK x1 x2 X7 Y8
        · refine j_iconst (v := 1) (q := 38) d_Mod_lets_37 (by decide) rfl ?_
          refine j_goto (q := 42) d_Mod_lets_38 (by decide) ?_
          refine j_sub (L' := [some (.ref 70), some (.int x1), some (.int x2), none]) ⟨rfl, ⟨rfl, ⟨rfl, trivial⟩⟩⟩ ?_
          exact jb_Mod_lets_42 hK x1 x2 (1 : Int32) X7 Y8
def b_Mod_turns_13 (x1 : Int32) (s0 : Int32) (X : HI) (Y : HL) : Option Out :=
    gd (ixb (12 : Int32) 15) (
    (if s0 = 0 then
    wr (ixb (12 : Int32) 15) (up X 77 (12 : Int32).toNatClampNeg ((X 77 (12 : Int32).toNatClampNeg) ^^^ (0 : Int32))) (fun X4 =>
    (gd (zb s0) (rI s0 X4 Y)))
    else
    wr (ixb (12 : Int32) 15) (up X 77 (12 : Int32).toNatClampNeg ((X 77 (12 : Int32).toNatClampNeg) ^^^ ((1 : Int32) <<< (x1 &&& 31)))) (fun X5 =>
    (gd (zb s0) (rI s0 X5 Y)))))
def f_Mod_turns (x1 : Int32) (X : HI) (Y : HL) : Option Out :=
    bi (f_Mod_noGate x1 X Y) (fun r3 X1 Y2 =>
    (if r3 = 0 then
    (b_Mod_turns_13 x1 (1 : Int32) X1 Y2)
    else
    (b_Mod_turns_13 x1 (0 : Int32) X1 Y2)))
set_option maxRecDepth 4000 in
theorem jb_Mod_turns_13 {K : KK} (hK : kOK K) (x1 : Int32) (s0 : Int32) (X : HI) (Y : HL) : JO K "BrinePansModel" prog_8_method_53_code 3 (some .boolean) rm_Mod_turns 0 0 (MZ K) 13 [some (.ref 70), some (.int x1), none] [.int s0] X Y (b_Mod_turns_13 x1 s0 X Y) := by
  unfold b_Mod_turns_13
  refine j_istore_n (i := 2) (L' := [some (.ref 70), some (.int x1), some (.int s0)]) (q := 14) d_Mod_turns_13 rfl (by decide) rfl rfl rfl ?_
  refine j_aload_n (i := 0) (x := 70) (q := 15) d_Mod_turns_14 rfl rfl rfl ?_
  refine j_get (v := .ref 77) (q := 18) d_Mod_turns_15 fk_Mod_28 fv_70_13 rfl ?_
  refine j_bipush (v := 12) (q := 20) d_Mod_turns_18 (by decide +kernel) rfl ?_
  refine j_dup2 (q := 21) d_Mod_turns_20 rfl rfl rfl ?_
  refine j_iald (q := 22) d_Mod_turns_21 ai_77 rfl ?_
  refine j_iload_n (i := 2) (x := s0) (q := 23) d_Mod_turns_22 rfl rfl rfl ?_
  refine j_if_eq (t := 32) (q := 26) d_Mod_turns_23 (by decide) rfl ?_ ?_
  · refine j_iconst (v := 0) (q := 33) d_Mod_turns_32 (by decide) rfl ?_
    refine j_ixor (q := 34) d_Mod_turns_33 rfl ?_
    refine j_iast (q := 35) d_Mod_turns_34 ai_77 rfl (fun X4 => ?_)
    refine j_iload_n (i := 2) (x := s0) (q := 36) d_Mod_turns_35 rfl rfl rfl ?_
    exact j_zretG d_Mod_turns_36
  · refine j_iconst (v := 1) (q := 27) d_Mod_turns_26 (by decide) rfl ?_
    refine j_iload_n (i := 1) (x := x1) (q := 28) d_Mod_turns_27 rfl rfl rfl ?_
    refine j_ishl (q := 29) d_Mod_turns_28 rfl ?_
    refine j_goto (q := 33) d_Mod_turns_29 (by decide) ?_
    refine j_ixor (q := 34) d_Mod_turns_33 rfl ?_
    refine j_iast (q := 35) d_Mod_turns_34 ai_77 rfl (fun X5 => ?_)
    refine j_iload_n (i := 2) (x := s0) (q := 36) d_Mod_turns_35 rfl rfl rfl ?_
    exact j_zretG d_Mod_turns_36
set_option maxRecDepth 4000 in
theorem c_Mod_turns {K : KK} (hK : kOK K) (x1 : Int32) (X : HI) (Y : HL) : CT K y_Mod_turns prog_8_method_53_code 3 (some .boolean) rm_Mod_turns [.ref 70, .int x1] X Y (f_Mod_turns x1 X Y) := by
  refine ct_of hK (L := [some (.ref 70), some (.int x1), none]) (by decide) ⟨rfl, ⟨rfl, trivial⟩⟩ (Nat.le_of_ble_eq_true rfl) ?_
  unfold f_Mod_turns
  refine j_aload_n (i := 0) (x := 70) (q := 1) d_Mod_turns_0 rfl rfl rfl ?_
  refine j_iload_n (i := 1) (x := x1) (q := 2) d_Mod_turns_1 rfl rfl rfl ?_
  refine j_callVi (a := 70) (S := []) (q := 5) [.int x1] d_Mod_turns_2 mw_Mod_noGate mv_Mod_noGate ml_Mod_172 ob_70 rfl rfl (c_Mod_noGate hK x1 X Y) ⟨⟨rfl, rfl⟩, ⟨Nat.le_of_ble_eq_true rfl, Nat.le_of_ble_eq_true rfl⟩, ⟨Nat.le_refl 0, Nat.le_refl 0⟩⟩ (Nat.le_of_ble_eq_true rfl) rfl (fun r3 X1 Y2 => ?_)
  refine j_if_ne (t := 12) (q := 8) d_Mod_turns_5 (by decide) rfl ?_ ?_
  · refine j_iconst (v := 0) (q := 13) d_Mod_turns_12 (by decide) rfl ?_
    refine j_sub (L' := [some (.ref 70), some (.int x1), none]) ⟨rfl, ⟨rfl, trivial⟩⟩ ?_
    exact jb_Mod_turns_13 hK x1 (0 : Int32) X1 Y2
  · refine j_iconst (v := 1) (q := 9) d_Mod_turns_8 (by decide) rfl ?_
    refine j_goto (q := 13) d_Mod_turns_9 (by decide) ?_
    refine j_sub (L' := [some (.ref 70), some (.int x1), none]) ⟨rfl, ⟨rfl, trivial⟩⟩ ?_
    exact jb_Mod_turns_13 hK x1 (1 : Int32) X1 Y2
def b_Mod_rakes_24 (x1 : Int32) (s0 : Int32) (X : HI) (Y : HL) : Option Out :=
    (if s0 = 0 then
    (gd (zb s0) (rI s0 X Y))
    else
    bi (f_Mod_goRake 77 x1 X Y) (fun r6 X4 Y5 =>
    (gd (zb s0) (rI s0 X4 Y5))))
def b_Mod_rakes_23 (x1 : Int32) (X : HI) (Y : HL) : Option Out :=
    (b_Mod_rakes_24 x1 (0 : Int32) X Y)
def f_Mod_rakes (x1 : Int32) (X : HI) (Y : HL) : Option Out :=
    bi (f_Mod_noPan x1 X Y) (fun r3 X1 Y2 =>
    (if r3 = 0 then
    bi (f_Mod_canRake 77 x1 X1 Y2) (fun r9 X7 Y8 =>
    (if r9 = 0 then
    (b_Mod_rakes_23 x1 X7 Y8)
    else
    (b_Mod_rakes_24 x1 (1 : Int32) X7 Y8)))
    else
    (b_Mod_rakes_23 x1 X1 Y2)))
set_option maxRecDepth 4000 in
theorem jb_Mod_rakes_24 {K : KK} (hK : kOK K) (x1 : Int32) (s0 : Int32) (X : HI) (Y : HL) : JO K "BrinePansModel" prog_8_method_54_code 3 (some .boolean) rm_Mod_rakes 0 0 (MZ K) 24 [some (.ref 70), some (.int x1), none] [.int s0] X Y (b_Mod_rakes_24 x1 s0 X Y) := by
  unfold b_Mod_rakes_24
  refine j_istore_n (i := 2) (L' := [some (.ref 70), some (.int x1), some (.int s0)]) (q := 25) d_Mod_rakes_24 rfl (by decide) rfl rfl rfl ?_
  refine j_iload_n (i := 2) (x := s0) (q := 26) d_Mod_rakes_25 rfl rfl rfl ?_
  refine j_if_eq (t := 38) (q := 29) d_Mod_rakes_26 (by decide) rfl ?_ ?_
  · refine j_iload_n (i := 2) (x := s0) (q := 39) d_Mod_rakes_38 rfl rfl rfl ?_
    exact j_zretG d_Mod_rakes_39
  · refine j_aload_n (i := 0) (x := 70) (q := 30) d_Mod_rakes_29 rfl rfl rfl ?_
    refine j_get (v := .ref 77) (q := 33) d_Mod_rakes_30 fk_Mod_28 fv_70_13 rfl ?_
    refine j_iload_n (i := 1) (x := x1) (q := 34) d_Mod_rakes_33 rfl rfl rfl ?_
    refine j_callSi (S := []) (q := 37) [.ref 77, .int x1] d_Mod_rakes_34 mw_Mod_goRake ms_Mod_goRake ml_Mod_175 rfl rfl (c_Mod_goRake hK 77 ai_77 x1 X Y) ⟨⟨rfl, rfl⟩, ⟨Nat.le_of_ble_eq_true rfl, Nat.le_of_ble_eq_true rfl⟩, ⟨Nat.le_refl 0, Nat.le_refl 0⟩⟩ (Nat.le_of_ble_eq_true rfl) rfl (fun r6 X4 Y5 => ?_)
    refine j_pop (q := 38) d_Mod_rakes_37 rfl rfl ?_
    refine j_iload_n (i := 2) (x := s0) (q := 39) d_Mod_rakes_38 rfl rfl rfl ?_
    exact j_zretG d_Mod_rakes_39
set_option maxRecDepth 4000 in
theorem jb_Mod_rakes_23 {K : KK} (hK : kOK K) (x1 : Int32) (X : HI) (Y : HL) : JO K "BrinePansModel" prog_8_method_54_code 3 (some .boolean) rm_Mod_rakes 0 0 (MZ K) 23 [some (.ref 70), some (.int x1), none] [] X Y (b_Mod_rakes_23 x1 X Y) := by
  unfold b_Mod_rakes_23
  refine j_iconst (v := 0) (q := 24) d_Mod_rakes_23 (by decide) rfl ?_
  refine j_sub (L' := [some (.ref 70), some (.int x1), none]) ⟨rfl, ⟨rfl, trivial⟩⟩ ?_
  exact jb_Mod_rakes_24 hK x1 (0 : Int32) X Y
set_option maxRecDepth 4000 in
theorem c_Mod_rakes {K : KK} (hK : kOK K) (x1 : Int32) (X : HI) (Y : HL) : CT K y_Mod_rakes prog_8_method_54_code 3 (some .boolean) rm_Mod_rakes [.ref 70, .int x1] X Y (f_Mod_rakes x1 X Y) := by
  refine ct_of hK (L := [some (.ref 70), some (.int x1), none]) (by decide) ⟨rfl, ⟨rfl, trivial⟩⟩ (Nat.le_of_ble_eq_true rfl) ?_
  unfold f_Mod_rakes
  refine j_aload_n (i := 0) (x := 70) (q := 1) d_Mod_rakes_0 rfl rfl rfl ?_
  refine j_iload_n (i := 1) (x := x1) (q := 2) d_Mod_rakes_1 rfl rfl rfl ?_
  refine j_callVi (a := 70) (S := []) (q := 5) [.int x1] d_Mod_rakes_2 mw_Mod_noPan mv_Mod_noPan ml_Mod_159 ob_70 rfl rfl (c_Mod_noPan hK x1 X Y) ⟨⟨rfl, rfl⟩, ⟨Nat.le_of_ble_eq_true rfl, Nat.le_of_ble_eq_true rfl⟩, ⟨Nat.le_refl 0, Nat.le_refl 0⟩⟩ (Nat.le_of_ble_eq_true rfl) rfl (fun r3 X1 Y2 => ?_)
  refine j_if_ne (t := 23) (q := 8) d_Mod_rakes_5 (by decide) rfl ?_ ?_
  · refine j_sub (L' := [some (.ref 70), some (.int x1), none]) ⟨rfl, ⟨rfl, trivial⟩⟩ ?_
    exact jb_Mod_rakes_23 hK x1 X1 Y2
  · refine j_aload_n (i := 0) (x := 70) (q := 9) d_Mod_rakes_8 rfl rfl rfl ?_
    refine j_get (v := .ref 77) (q := 12) d_Mod_rakes_9 fk_Mod_28 fv_70_13 rfl ?_
    refine j_iload_n (i := 1) (x := x1) (q := 13) d_Mod_rakes_12 rfl rfl rfl ?_
    refine j_callSi (S := []) (q := 16) [.ref 77, .int x1] d_Mod_rakes_13 mw_Mod_canRake ms_Mod_canRake ml_Mod_142 rfl rfl (c_Mod_canRake hK 77 ai_77 x1 X1 Y2) ⟨⟨rfl, rfl⟩, ⟨Nat.le_of_ble_eq_true rfl, Nat.le_of_ble_eq_true rfl⟩, ⟨Nat.le_refl 0, Nat.le_refl 0⟩⟩ (Nat.le_of_ble_eq_true rfl) rfl (fun r9 X7 Y8 => ?_)
    refine j_if_eq (t := 23) (q := 19) d_Mod_rakes_16 (by decide) rfl ?_ ?_
    · refine j_sub (L' := [some (.ref 70), some (.int x1), none]) ⟨rfl, ⟨rfl, trivial⟩⟩ ?_
      exact jb_Mod_rakes_23 hK x1 X7 Y8
    · refine j_iconst (v := 1) (q := 20) d_Mod_rakes_19 (by decide) rfl ?_
      refine j_goto (q := 24) d_Mod_rakes_20 (by decide) ?_
      refine j_sub (L' := [some (.ref 70), some (.int x1), none]) ⟨rfl, ⟨rfl, trivial⟩⟩ ?_
      exact jb_Mod_rakes_24 hK x1 (1 : Int32) X7 Y8
def f_Mod_does (x1 : Int32) (X : HI) (Y : HL) : Option Out :=
    gd (nzb (100 : Int32)) (
    lt (x1 / (100 : Int32)) (fun v1 =>
    gd (nzb (10 : Int32)) (
    gd (nzb (10 : Int32)) (
    lt ((x1 / (10 : Int32)) - (x1 / (10 : Int32)) / (10 : Int32) * (10 : Int32)) (fun v2 =>
    gd (nzb (10 : Int32)) (
    lt (x1 - x1 / (10 : Int32) * (10 : Int32)) (fun v3 =>
    (if x1 = 0 then
    bv (f_Mod_goDay 77 (1 : Int32) X Y) (fun X25 Y26 =>
    (rI (1 : Int32) X25 Y26))
    else
    (if v1 = (1 : Int32) then
    (if v2 = 0 then
    bi (f_Mod_seas v3 X Y) (fun r6 X4 Y5 =>
    (if r6 = 0 then
    (rI (0 : Int32) X4 Y5)
    else
    (rI (1 : Int32) X4 Y5)))
    else
    (rI (0 : Int32) X Y))
    else
    (if v1 = (2 : Int32) then
    bi (f_Mod_lets v2 v3 X Y) (fun r9 X7 Y8 =>
    (gd (zb r9) (rI r9 X7 Y8)))
    else
    (if v1 = (3 : Int32) then
    (if v2 = 0 then
    bi (f_Mod_turns v3 X Y) (fun r12 X10 Y11 =>
    (if r12 = 0 then
    (rI (0 : Int32) X10 Y11)
    else
    (rI (1 : Int32) X10 Y11)))
    else
    (rI (0 : Int32) X Y))
    else
    (if v1 = (4 : Int32) then
    (if v2 = 0 then
    bi (f_Mod_rakes v3 X Y) (fun r15 X13 Y14 =>
    (if r15 = 0 then
    (rI (0 : Int32) X13 Y14)
    else
    (rI (1 : Int32) X13 Y14)))
    else
    (rI (0 : Int32) X Y))
    else
    (if v1 = (5 : Int32) then
    bi (f_Mod_noPan v2 X Y) (fun r18 X16 Y17 =>
    (if r18 = 0 then
    gd (ixb v2 15) (
    (if (X16 77 v2.toNatClampNeg) < v3 then
    (rI (0 : Int32) X16 Y17)
    else
    (rI (1 : Int32) X16 Y17)))
    else
    (rI (0 : Int32) X16 Y17)))
    else
    (if v1 = (6 : Int32) then
    bi (f_Mod_noPan v2 X Y) (fun r21 X19 Y20 =>
    (if r21 = 0 then
    bi (f_Mod_crustOf 77 v2 X19 Y20) (fun r24 X22 Y23 =>
    (if r24 < ((10 : Int32) * v3) then
    (rI (0 : Int32) X22 Y23)
    else
    (rI (1 : Int32) X22 Y23)))
    else
    (rI (0 : Int32) X19 Y20)))
    else
    (rI (0 : Int32) X Y)))))))))))))))
set_option maxRecDepth 4000 in
theorem c_Mod_does {K : KK} (hK : kOK K) (x1 : Int32) (X : HI) (Y : HL) : CT K y_Mod_does prog_8_method_55_code 5 (some .boolean) rm_Mod_does [.ref 70, .int x1] X Y (f_Mod_does x1 X Y) := by
  refine ct_of hK (L := [some (.ref 70), some (.int x1), none, none, none]) (by decide) ⟨rfl, ⟨rfl, trivial⟩⟩ (Nat.le_of_ble_eq_true rfl) ?_
  unfold f_Mod_does
  refine j_iload_n (i := 1) (x := x1) (q := 1) d_Mod_does_0 rfl rfl rfl ?_
  refine j_bipush (v := 100) (q := 3) d_Mod_does_1 (by decide +kernel) rfl ?_
  refine j_idiv (q := 4) d_Mod_does_3 rfl ?_
  refine j_lt (fun v1 => ?_)
  refine j_istore_n (i := 2) (L' := [some (.ref 70), some (.int x1), some (.int v1), none, none]) (q := 5) d_Mod_does_4 rfl (by decide) rfl rfl rfl ?_
  refine j_iload_n (i := 1) (x := x1) (q := 6) d_Mod_does_5 rfl rfl rfl ?_
  refine j_bipush (v := 10) (q := 8) d_Mod_does_6 (by decide +kernel) rfl ?_
  refine j_idiv (q := 9) d_Mod_does_8 rfl ?_
  refine j_bipush (v := 10) (q := 11) d_Mod_does_9 (by decide +kernel) rfl ?_
  refine j_irem (q := 12) d_Mod_does_11 rfl ?_
  refine j_lt (fun v2 => ?_)
  refine j_istore_n (i := 3) (L' := [some (.ref 70), some (.int x1), some (.int v1), some (.int v2), none]) (q := 13) d_Mod_does_12 rfl (by decide) rfl rfl rfl ?_
  refine j_iload_n (i := 1) (x := x1) (q := 14) d_Mod_does_13 rfl rfl rfl ?_
  refine j_bipush (v := 10) (q := 16) d_Mod_does_14 (by decide +kernel) rfl ?_
  refine j_irem (q := 17) d_Mod_does_16 rfl ?_
  refine j_lt (fun v3 => ?_)
  refine j_istore (i := 4) (L' := [some (.ref 70), some (.int x1), some (.int v1), some (.int v2), some (.int v3)]) (q := 19) d_Mod_does_17 (by decide) rfl rfl rfl ?_
  refine j_iload_n (i := 1) (x := x1) (q := 20) d_Mod_does_19 rfl rfl rfl ?_
  refine j_if_ne (t := 34) (q := 23) d_Mod_does_20 (by decide) rfl ?_ ?_
  · refine j_iload_n (i := 2) (x := v1) (q := 35) d_Mod_does_34 rfl rfl rfl ?_
    refine j_ite (fun z35_0 => ?_) (fun z35_0 => ?_)
    · refine j_tabIn (z := 1) (t := 68) (off := 33) d_Mod_does_35 z35_0 (by decide) (by decide) (by decide) (by decide) ?_
      refine j_iload_n (i := 3) (x := v2) (q := 69) d_Mod_does_68 rfl rfl rfl ?_
      refine j_if_ne (t := 85) (q := 72) d_Mod_does_69 (by decide) rfl ?_ ?_
      · refine j_iconst (v := 0) (q := 86) d_Mod_does_85 (by decide) rfl ?_
        exact j_zret d_Mod_does_86 (by decide)
      · refine j_aload_n (i := 0) (x := 70) (q := 73) d_Mod_does_72 rfl rfl rfl ?_
        refine j_iload (i := 4) (x := v3) (q := 75) d_Mod_does_73 rfl rfl ?_
        refine j_callVi (a := 70) (S := []) (q := 78) [.int v3] d_Mod_does_75 mw_Mod_seas mv_Mod_seas ml_Mod_203 ob_70 rfl rfl (c_Mod_seas hK v3 X Y) ⟨⟨rfl, rfl⟩, ⟨Nat.le_of_ble_eq_true rfl, Nat.le_of_ble_eq_true rfl⟩, ⟨Nat.le_refl 0, Nat.le_refl 0⟩⟩ (Nat.le_of_ble_eq_true rfl) rfl (fun r6 X4 Y5 => ?_)
        refine j_if_eq (t := 85) (q := 81) d_Mod_does_78 (by decide) rfl ?_ ?_
        · refine j_iconst (v := 0) (q := 86) d_Mod_does_85 (by decide) rfl ?_
          exact j_zret d_Mod_does_86 (by decide)
        · refine j_iconst (v := 1) (q := 82) d_Mod_does_81 (by decide) rfl ?_
          refine j_goto (q := 86) d_Mod_does_82 (by decide) ?_
          exact j_zret d_Mod_does_86 (by decide)
    · skip
      refine j_ite (fun z35_1 => ?_) (fun z35_1 => ?_)
      · refine j_tabIn (z := 2) (t := 87) (off := 52) d_Mod_does_35 z35_1 (by decide) (by decide) (by decide) (by decide) ?_
        refine j_aload_n (i := 0) (x := 70) (q := 88) d_Mod_does_87 rfl rfl rfl ?_
        refine j_iload_n (i := 3) (x := v2) (q := 89) d_Mod_does_88 rfl rfl rfl ?_
        refine j_iload (i := 4) (x := v3) (q := 91) d_Mod_does_89 rfl rfl ?_
        refine j_callVi (a := 70) (S := []) (q := 94) [.int v2, .int v3] d_Mod_does_91 mw_Mod_lets mv_Mod_lets ml_Mod_206 ob_70 rfl rfl (c_Mod_lets hK v2 v3 X Y) ⟨⟨rfl, rfl⟩, ⟨Nat.le_of_ble_eq_true rfl, Nat.le_of_ble_eq_true rfl⟩, ⟨Nat.le_refl 0, Nat.le_refl 0⟩⟩ (Nat.le_of_ble_eq_true rfl) rfl (fun r9 X7 Y8 => ?_)
        exact j_zretG d_Mod_does_94
      · skip
        refine j_ite (fun z35_2 => ?_) (fun z35_2 => ?_)
        · refine j_tabIn (z := 3) (t := 95) (off := 60) d_Mod_does_35 z35_2 (by decide) (by decide) (by decide) (by decide) ?_
          refine j_iload_n (i := 3) (x := v2) (q := 96) d_Mod_does_95 rfl rfl rfl ?_
          refine j_if_ne (t := 112) (q := 99) d_Mod_does_96 (by decide) rfl ?_ ?_
          · refine j_iconst (v := 0) (q := 113) d_Mod_does_112 (by decide) rfl ?_
            exact j_zret d_Mod_does_113 (by decide)
          · refine j_aload_n (i := 0) (x := 70) (q := 100) d_Mod_does_99 rfl rfl rfl ?_
            refine j_iload (i := 4) (x := v3) (q := 102) d_Mod_does_100 rfl rfl ?_
            refine j_callVi (a := 70) (S := []) (q := 105) [.int v3] d_Mod_does_102 mw_Mod_turns mv_Mod_turns ml_Mod_209 ob_70 rfl rfl (c_Mod_turns hK v3 X Y) ⟨⟨rfl, rfl⟩, ⟨Nat.le_of_ble_eq_true rfl, Nat.le_of_ble_eq_true rfl⟩, ⟨Nat.le_refl 0, Nat.le_refl 0⟩⟩ (Nat.le_of_ble_eq_true rfl) rfl (fun r12 X10 Y11 => ?_)
            refine j_if_eq (t := 112) (q := 108) d_Mod_does_105 (by decide) rfl ?_ ?_
            · refine j_iconst (v := 0) (q := 113) d_Mod_does_112 (by decide) rfl ?_
              exact j_zret d_Mod_does_113 (by decide)
            · refine j_iconst (v := 1) (q := 109) d_Mod_does_108 (by decide) rfl ?_
              refine j_goto (q := 113) d_Mod_does_109 (by decide) ?_
              exact j_zret d_Mod_does_113 (by decide)
        · skip
          refine j_ite (fun z35_3 => ?_) (fun z35_3 => ?_)
          · refine j_tabIn (z := 4) (t := 114) (off := 79) d_Mod_does_35 z35_3 (by decide) (by decide) (by decide) (by decide) ?_
            refine j_iload_n (i := 3) (x := v2) (q := 115) d_Mod_does_114 rfl rfl rfl ?_
            refine j_if_ne (t := 131) (q := 118) d_Mod_does_115 (by decide) rfl ?_ ?_
            · refine j_iconst (v := 0) (q := 132) d_Mod_does_131 (by decide) rfl ?_
              exact j_zret d_Mod_does_132 (by decide)
            · refine j_aload_n (i := 0) (x := 70) (q := 119) d_Mod_does_118 rfl rfl rfl ?_
              refine j_iload (i := 4) (x := v3) (q := 121) d_Mod_does_119 rfl rfl ?_
              refine j_callVi (a := 70) (S := []) (q := 124) [.int v3] d_Mod_does_121 mw_Mod_rakes mv_Mod_rakes ml_Mod_212 ob_70 rfl rfl (c_Mod_rakes hK v3 X Y) ⟨⟨rfl, rfl⟩, ⟨Nat.le_of_ble_eq_true rfl, Nat.le_of_ble_eq_true rfl⟩, ⟨Nat.le_refl 0, Nat.le_refl 0⟩⟩ (Nat.le_of_ble_eq_true rfl) rfl (fun r15 X13 Y14 => ?_)
              refine j_if_eq (t := 131) (q := 127) d_Mod_does_124 (by decide) rfl ?_ ?_
              · refine j_iconst (v := 0) (q := 132) d_Mod_does_131 (by decide) rfl ?_
                exact j_zret d_Mod_does_132 (by decide)
              · refine j_iconst (v := 1) (q := 128) d_Mod_does_127 (by decide) rfl ?_
                refine j_goto (q := 132) d_Mod_does_128 (by decide) ?_
                exact j_zret d_Mod_does_132 (by decide)
          · skip
            refine j_ite (fun z35_4 => ?_) (fun z35_4 => ?_)
            · refine j_tabIn (z := 5) (t := 133) (off := 98) d_Mod_does_35 z35_4 (by decide) (by decide) (by decide) (by decide) ?_
              refine j_aload_n (i := 0) (x := 70) (q := 134) d_Mod_does_133 rfl rfl rfl ?_
              refine j_iload_n (i := 3) (x := v2) (q := 135) d_Mod_does_134 rfl rfl rfl ?_
              refine j_callVi (a := 70) (S := []) (q := 138) [.int v2] d_Mod_does_135 mw_Mod_noPan mv_Mod_noPan ml_Mod_159 ob_70 rfl rfl (c_Mod_noPan hK v2 X Y) ⟨⟨rfl, rfl⟩, ⟨Nat.le_of_ble_eq_true rfl, Nat.le_of_ble_eq_true rfl⟩, ⟨Nat.le_refl 0, Nat.le_refl 0⟩⟩ (Nat.le_of_ble_eq_true rfl) rfl (fun r18 X16 Y17 => ?_)
              refine j_if_ne (t := 156) (q := 141) d_Mod_does_138 (by decide) rfl ?_ ?_
              · refine j_iconst (v := 0) (q := 157) d_Mod_does_156 (by decide) rfl ?_
                exact j_zret d_Mod_does_157 (by decide)
              · refine j_aload_n (i := 0) (x := 70) (q := 142) d_Mod_does_141 rfl rfl rfl ?_
                refine j_get (v := .ref 77) (q := 145) d_Mod_does_142 fk_Mod_28 fv_70_13 rfl ?_
                refine j_iload_n (i := 3) (x := v2) (q := 146) d_Mod_does_145 rfl rfl rfl ?_
                refine j_iald (q := 147) d_Mod_does_146 ai_77 rfl ?_
                refine j_iload (i := 4) (x := v3) (q := 149) d_Mod_does_147 rfl rfl ?_
                refine j_icmp_lt (t := 156) (q := 152) d_Mod_does_149 (by decide) rfl ?_ ?_
                · refine j_iconst (v := 0) (q := 157) d_Mod_does_156 (by decide) rfl ?_
                  exact j_zret d_Mod_does_157 (by decide)
                · refine j_iconst (v := 1) (q := 153) d_Mod_does_152 (by decide) rfl ?_
                  refine j_goto (q := 157) d_Mod_does_153 (by decide) ?_
                  exact j_zret d_Mod_does_157 (by decide)
            · skip
              refine j_tabOut (t := 158) d_Mod_does_35 (by have e1 := ne_toInt z35_0; have e2 := ne_toInt z35_1; have e3 := ne_toInt z35_2; have e4 := ne_toInt z35_3; have e5 := ne_toInt z35_4; rw [show ((1 : Int32)).toInt = 1 from by decide] at e1; rw [show ((2 : Int32)).toInt = 2 from by decide] at e2; rw [show ((3 : Int32)).toInt = 3 from by decide] at e3; rw [show ((4 : Int32)).toInt = 4 from by decide] at e4; rw [show ((5 : Int32)).toInt = 5 from by decide] at e5; omega) (by decide) ?_
              refine j_iload_n (i := 2) (x := v1) (q := 159) d_Mod_does_158 rfl rfl rfl ?_
              refine j_bipush (v := 6) (q := 161) d_Mod_does_159 (by decide +kernel) rfl ?_
              refine j_icmp_ne (t := 192) (q := 164) d_Mod_does_161 (by decide) rfl ?_ ?_
              · refine j_iconst (v := 0) (q := 193) d_Mod_does_192 (by decide) rfl ?_
                exact j_zret d_Mod_does_193 (by decide)
              · refine j_aload_n (i := 0) (x := 70) (q := 165) d_Mod_does_164 rfl rfl rfl ?_
                refine j_iload_n (i := 3) (x := v2) (q := 166) d_Mod_does_165 rfl rfl rfl ?_
                refine j_callVi (a := 70) (S := []) (q := 169) [.int v2] d_Mod_does_166 mw_Mod_noPan mv_Mod_noPan ml_Mod_159 ob_70 rfl rfl (c_Mod_noPan hK v2 X Y) ⟨⟨rfl, rfl⟩, ⟨Nat.le_of_ble_eq_true rfl, Nat.le_of_ble_eq_true rfl⟩, ⟨Nat.le_refl 0, Nat.le_refl 0⟩⟩ (Nat.le_of_ble_eq_true rfl) rfl (fun r21 X19 Y20 => ?_)
                refine j_if_ne (t := 192) (q := 172) d_Mod_does_169 (by decide) rfl ?_ ?_
                · refine j_iconst (v := 0) (q := 193) d_Mod_does_192 (by decide) rfl ?_
                  exact j_zret d_Mod_does_193 (by decide)
                · refine j_aload_n (i := 0) (x := 70) (q := 173) d_Mod_does_172 rfl rfl rfl ?_
                  refine j_get (v := .ref 77) (q := 176) d_Mod_does_173 fk_Mod_28 fv_70_13 rfl ?_
                  refine j_iload_n (i := 3) (x := v2) (q := 177) d_Mod_does_176 rfl rfl rfl ?_
                  refine j_callSi (S := []) (q := 180) [.ref 77, .int v2] d_Mod_does_177 mw_Mod_crustOf ms_Mod_crustOf ml_Mod_110 rfl rfl (c_Mod_crustOf hK 77 ai_77 v2 X19 Y20) ⟨⟨rfl, rfl⟩, ⟨Nat.le_of_ble_eq_true rfl, Nat.le_of_ble_eq_true rfl⟩, ⟨Nat.le_refl 0, Nat.le_refl 0⟩⟩ (Nat.le_of_ble_eq_true rfl) rfl (fun r24 X22 Y23 => ?_)
                  refine j_bipush (v := 10) (q := 182) d_Mod_does_180 (by decide +kernel) rfl ?_
                  refine j_iload (i := 4) (x := v3) (q := 184) d_Mod_does_182 rfl rfl ?_
                  refine j_imul (q := 185) d_Mod_does_184 rfl ?_
                  refine j_icmp_lt (t := 192) (q := 188) d_Mod_does_185 (by decide) rfl ?_ ?_
                  · refine j_iconst (v := 0) (q := 193) d_Mod_does_192 (by decide) rfl ?_
                    exact j_zret d_Mod_does_193 (by decide)
                  · refine j_iconst (v := 1) (q := 189) d_Mod_does_188 (by decide) rfl ?_
                    refine j_goto (q := 193) d_Mod_does_189 (by decide) ?_
                    exact j_zret d_Mod_does_193 (by decide)
  · refine j_aload_n (i := 0) (x := 70) (q := 24) d_Mod_does_23 rfl rfl rfl ?_
    refine j_aload_n (i := 0) (x := 70) (q := 25) d_Mod_does_24 rfl rfl rfl ?_
    refine j_get (v := .ref 77) (q := 28) d_Mod_does_25 fk_Mod_28 fv_70_13 rfl ?_
    refine j_iconst (v := 1) (q := 29) d_Mod_does_28 (by decide) rfl ?_
    refine j_callVv (a := 70) (S := []) (q := 32) [.ref 77, .int (1 : Int32)] d_Mod_does_29 mw_Mod_goDay mv_Mod_goDay ml_Mod_138 ob_70 rfl rfl (c_Mod_goDay hK 77 ai_77 (1 : Int32) X Y) ⟨⟨rfl, rfl⟩, ⟨Nat.le_of_ble_eq_true rfl, Nat.le_of_ble_eq_true rfl⟩, ⟨Nat.le_refl 0, Nat.le_refl 0⟩⟩ (Nat.le_of_ble_eq_true rfl) rfl (fun X25 Y26 => ?_)
    refine j_iconst (v := 1) (q := 33) d_Mod_does_32 (by decide) rfl ?_
    exact j_zret d_Mod_does_33 (by decide)
def l_Mod_judge_44 (x1 : Int32) (x2 : Int64) (kx : Int32 → HI → HL → Option Out) : Nat → Int32 → HI → HL → Option Out
  | 0, _, _, _ => none
  | n + 1, m4, X, Y =>
    (if x1 ≤ m4 then
    (kx m4 X Y)
    else
    bl (f_Mod_longPower (1000 : Int64) ((x1 - (1 : Int32)) - m4) X Y) (fun r15 X13 Y14 =>
    gd (nzl r15) (
    gd (nzl (1000 : Int64)) (
    bi (f_Mod_does ((x2 / r15) - (x2 / r15) / (1000 : Int64) * (1000 : Int64)).toInt32 X13 Y14) (fun r18 X16 Y17 =>
    (if r18 = 0 then
    (rI m4 X16 Y17)
    else
    (l_Mod_judge_44 x1 x2 kx n (m4 + (1 : Int32)) X16 Y17)))))))
def f_Mod_judge (x1 : Int32) (x2 : Int64) (X : HI) (Y : HL) : Option Out :=
    lh (up X 70 0 (0 : Int32)) (fun X1 =>
    bi (f_Mod_in (x1.toInt64) (1 : Int64) (4 : Int64) X1 Y) (fun r4 X2 Y3 =>
    (if r4 = 0 then
    (rI (-2 : Int32) X2 Y3)
    else
    bl (f_Mod_longPower (1000 : Int64) x1 X2 Y3) (fun r7 X5 Y6 =>
    bi (f_Mod_in x2 (0 : Int64) (r7 - (1 : Int64)) X5 Y6) (fun r10 X8 Y9 =>
    (if r10 = 0 then
    (rI (-2 : Int32) X8 Y9)
    else
    bv (f_Mod_begin X8 Y9) (fun X11 Y12 =>
    (l_Mod_judge_44 x1 x2 (fun w19 X20 Y21 =>
    (rI (-9 : Int32) X20 Y21)) 256 (0 : Int32) X11 Y12))))))))
set_option maxRecDepth 4000 in
theorem jl_Mod_judge_44 {K : KK} (hK : kOK K) (x1 : Int32) (x2 : Int64) (kx : Int32 → HI → HL → Option Out) (hkx : ∀ (m4 : Int32) (X : HI) (Y : HL), JO K "BrinePansModel" prog_8_method_56_code 5 (some .int) rm_Mod_judge 0 0 (MZ K) 85 [none, none, none, none, none] [] X Y (kx m4 X Y)) : ∀ (n : Nat) (m4 : Int32) (X : HI) (Y : HL), JO K "BrinePansModel" prog_8_method_56_code 5 (some .int) rm_Mod_judge 0 0 (MZ K) 44 [some (.ref 70), some (.int x1), some (.long x2), none, some (.int m4)] [] X Y (l_Mod_judge_44 x1 x2 kx n m4 X Y) := by
  intro n
  induction n with
  | zero =>
    intro m4 X Y
    rw [l_Mod_judge_44]
    exact j_none
  | succ n ih =>
    intro m4 X Y
    rw [l_Mod_judge_44]
    refine j_iload (i := 4) (x := m4) (q := 46) d_Mod_judge_44 rfl rfl ?_
    refine j_iload_n (i := 1) (x := x1) (q := 47) d_Mod_judge_46 rfl rfl rfl ?_
    refine j_icmp_ge (t := 85) (q := 50) d_Mod_judge_47 (by decide) rfl ?_ ?_
    · refine j_sub (L' := [none, none, none, none, none]) trivial ?_
      exact hkx m4 X Y
    · refine j_aload_n (i := 0) (x := 70) (q := 51) d_Mod_judge_50 rfl rfl rfl ?_
      refine j_lload_n (i := 2) (x := x2) (q := 52) d_Mod_judge_51 rfl rfl rfl ?_
      refine j_ldc2 (v := 1000) (q := 55) d_Mod_judge_52 (gw_t 817 (by decide +kernel) (by decide +kernel)) rfl ?_
      refine j_iload_n (i := 1) (x := x1) (q := 56) d_Mod_judge_55 rfl rfl rfl ?_
      refine j_iconst (v := 1) (q := 57) d_Mod_judge_56 (by decide) rfl ?_
      refine j_isub (q := 58) d_Mod_judge_57 rfl ?_
      refine j_iload (i := 4) (x := m4) (q := 60) d_Mod_judge_58 rfl rfl ?_
      refine j_isub (q := 61) d_Mod_judge_60 rfl ?_
      refine j_callSl (S := [.long x2, .ref 70]) (q := 64) [.long (1000 : Int64), .int ((x1 - (1 : Int32)) - m4)] d_Mod_judge_61 mw_Mod_longPower ms_Mod_longPower ml_Mod_219 rfl rfl (c_Mod_longPower hK (1000 : Int64) ((x1 - (1 : Int32)) - m4) X Y) ⟨⟨rfl, rfl⟩, ⟨Nat.le_of_ble_eq_true rfl, Nat.le_of_ble_eq_true rfl⟩, ⟨Nat.le_refl 0, Nat.le_refl 0⟩⟩ (Nat.le_of_ble_eq_true rfl) rfl (fun r15 X13 Y14 => ?_)
      refine j_ldiv (q := 65) d_Mod_judge_64 rfl ?_
      refine j_ldc2 (v := 1000) (q := 68) d_Mod_judge_65 (gw_t 817 (by decide +kernel) (by decide +kernel)) rfl ?_
      refine j_lrem (q := 69) d_Mod_judge_68 rfl ?_
      refine j_l2i (q := 70) d_Mod_judge_69 rfl ?_
      refine j_callVi (a := 70) (S := []) (q := 73) [.int ((x2 / r15) - (x2 / r15) / (1000 : Int64) * (1000 : Int64)).toInt32] d_Mod_judge_70 mw_Mod_does mv_Mod_does ml_Mod_223 ob_70 rfl rfl (c_Mod_does hK ((x2 / r15) - (x2 / r15) / (1000 : Int64) * (1000 : Int64)).toInt32 X13 Y14) ⟨⟨rfl, rfl⟩, ⟨Nat.le_of_ble_eq_true rfl, Nat.le_of_ble_eq_true rfl⟩, ⟨Nat.le_refl 0, Nat.le_refl 0⟩⟩ (Nat.le_of_ble_eq_true rfl) rfl (fun r18 X16 Y17 => ?_)
      refine j_if_ne (t := 79) (q := 76) d_Mod_judge_73 (by decide) rfl ?_ ?_
      · refine j_iinc (i := 4) (x := m4) (d := 1) (L' := [some (.ref 70), some (.int x1), some (.long x2), none, some (.int (m4 + (1 : Int32)))]) (q := 82) d_Mod_judge_79 rfl (by decide) (by decide) rfl rfl rfl ?_
        refine j_goto (q := 44) d_Mod_judge_82 (by decide) ?_
        refine j_sub (L' := [some (.ref 70), some (.int x1), some (.long x2), none, some (.int (m4 + (1 : Int32)))]) ⟨rfl, ⟨rfl, ⟨rfl, ⟨rfl, trivial⟩⟩⟩⟩ ?_
        exact ih (m4 + (1 : Int32)) X16 Y17
      · refine j_iload (i := 4) (x := m4) (q := 78) d_Mod_judge_76 rfl rfl ?_
        exact j_iret d_Mod_judge_78
set_option maxRecDepth 4000 in
theorem c_Mod_judge {K : KK} (hK : kOK K) (x1 : Int32) (x2 : Int64) (X : HI) (Y : HL) : CT K y_Mod_judge prog_8_method_56_code 5 (some .int) rm_Mod_judge [.ref 70, .int x1, .long x2] X Y (f_Mod_judge x1 x2 X Y) := by
  refine ct_of hK (L := [some (.ref 70), some (.int x1), some (.long x2), none, none]) (by decide) ⟨rfl, ⟨rfl, ⟨rfl, trivial⟩⟩⟩ (Nat.le_of_ble_eq_true rfl) ?_
  unfold f_Mod_judge
  refine j_aload_n (i := 0) (x := 70) (q := 1) d_Mod_judge_0 rfl rfl rfl ?_
  refine j_iconst (v := 0) (q := 2) d_Mod_judge_1 (by decide) rfl ?_
  refine j_putI (q := 5) d_Mod_judge_2 fp_Mod_56 fw_70_0 rfl (fun X1 => ?_)
  refine j_iload_n (i := 1) (x := x1) (q := 6) d_Mod_judge_5 rfl rfl rfl ?_
  refine j_i2l (q := 7) d_Mod_judge_6 rfl ?_
  refine j_lconst (v := 1) (q := 8) d_Mod_judge_7 (by decide) rfl ?_
  refine j_ldc2 (v := 4) (q := 11) d_Mod_judge_8 (gw_t 816 (by decide +kernel) (by decide +kernel)) rfl ?_
  refine j_callSi (S := []) (q := 14) [.long x1.toInt64, .long (1 : Int64), .long (4 : Int64)] d_Mod_judge_11 mw_Mod_in ms_Mod_in ml_Mod_63 rfl rfl (c_Mod_in hK (x1.toInt64) (1 : Int64) (4 : Int64) X1 Y) ⟨⟨rfl, rfl⟩, ⟨Nat.le_of_ble_eq_true rfl, Nat.le_of_ble_eq_true rfl⟩, ⟨Nat.le_refl 0, Nat.le_refl 0⟩⟩ (Nat.le_of_ble_eq_true rfl) rfl (fun r4 X2 Y3 => ?_)
  refine j_if_eq (t := 34) (q := 17) d_Mod_judge_14 (by decide) rfl ?_ ?_
  · refine j_bipush (v := -2) (q := 36) d_Mod_judge_34 (by decide +kernel) rfl ?_
    exact j_iret d_Mod_judge_36
  · refine j_lload_n (i := 2) (x := x2) (q := 18) d_Mod_judge_17 rfl rfl rfl ?_
    refine j_lconst (v := 0) (q := 19) d_Mod_judge_18 (by decide) rfl ?_
    refine j_ldc2 (v := 1000) (q := 22) d_Mod_judge_19 (gw_t 817 (by decide +kernel) (by decide +kernel)) rfl ?_
    refine j_iload_n (i := 1) (x := x1) (q := 23) d_Mod_judge_22 rfl rfl rfl ?_
    refine j_callSl (S := [.long (0 : Int64), .long x2]) (q := 26) [.long (1000 : Int64), .int x1] d_Mod_judge_23 mw_Mod_longPower ms_Mod_longPower ml_Mod_219 rfl rfl (c_Mod_longPower hK (1000 : Int64) x1 X2 Y3) ⟨⟨rfl, rfl⟩, ⟨Nat.le_of_ble_eq_true rfl, Nat.le_of_ble_eq_true rfl⟩, ⟨Nat.le_refl 0, Nat.le_refl 0⟩⟩ (Nat.le_of_ble_eq_true rfl) rfl (fun r7 X5 Y6 => ?_)
    refine j_lconst (v := 1) (q := 27) d_Mod_judge_26 (by decide) rfl ?_
    refine j_lsub (q := 28) d_Mod_judge_27 rfl ?_
    refine j_callSi (S := []) (q := 31) [.long x2, .long (0 : Int64), .long (r7 - (1 : Int64))] d_Mod_judge_28 mw_Mod_in ms_Mod_in ml_Mod_63 rfl rfl (c_Mod_in hK x2 (0 : Int64) (r7 - (1 : Int64)) X5 Y6) ⟨⟨rfl, rfl⟩, ⟨Nat.le_of_ble_eq_true rfl, Nat.le_of_ble_eq_true rfl⟩, ⟨Nat.le_refl 0, Nat.le_refl 0⟩⟩ (Nat.le_of_ble_eq_true rfl) rfl (fun r10 X8 Y9 => ?_)
    refine j_if_ne (t := 37) (q := 34) d_Mod_judge_31 (by decide) rfl ?_ ?_
    · refine j_aload_n (i := 0) (x := 70) (q := 38) d_Mod_judge_37 rfl rfl rfl ?_
      refine j_callVv (a := 70) (S := []) (q := 41) [] d_Mod_judge_38 mw_Mod_begin mv_Mod_begin ml_Mod_182 ob_70 rfl rfl (c_Mod_begin hK X8 Y9) ⟨⟨rfl, rfl⟩, ⟨Nat.le_of_ble_eq_true rfl, Nat.le_of_ble_eq_true rfl⟩, ⟨Nat.le_refl 0, Nat.le_refl 0⟩⟩ (Nat.le_of_ble_eq_true rfl) rfl (fun X11 Y12 => ?_)
      refine j_iconst (v := 0) (q := 42) d_Mod_judge_41 (by decide) rfl ?_
      refine j_istore (i := 4) (L' := [some (.ref 70), some (.int x1), some (.long x2), none, some (.int (0 : Int32))]) (q := 44) d_Mod_judge_42 (by decide) rfl rfl rfl ?_
      refine j_sub (L' := [some (.ref 70), some (.int x1), some (.long x2), none, some (.int (0 : Int32))]) ⟨rfl, ⟨rfl, ⟨rfl, ⟨rfl, trivial⟩⟩⟩⟩ ?_
      refine jl_Mod_judge_44 hK x1 x2 _ (fun w19 X20 Y21 => ?_) 256 (0 : Int32) X11 Y12
      refine j_bipush (v := -9) (q := 87) d_Mod_judge_85 (by decide +kernel) rfl ?_
      exact j_iret d_Mod_judge_87
    · refine j_bipush (v := -2) (q := 36) d_Mod_judge_34 (by decide +kernel) rfl ?_
      exact j_iret d_Mod_judge_36
def l_Mod_ways_4 (x0 : Int32) (kx : Int32 → Int32 → HI → HL → Option Out) : Nat → Int32 → Int32 → HI → HL → Option Out
  | 0, _, _, _, _ => none
  | n + 1, m1, m2, X, Y =>
    (if x0 < m2 then
    (kx m1 m2 X Y)
    else
    lt (m1 * m2) (fun v1 =>
    (l_Mod_ways_4 x0 kx n v1 (m2 + (1 : Int32)) X Y)))
def f_Mod_ways (x0 : Int32) (X : HI) (Y : HL) : Option Out :=
    (l_Mod_ways_4 x0 (fun w2 w3 X4 Y5 =>
    (rI w2 X4 Y5)) 256 (1 : Int32) (2 : Int32) X Y)
set_option maxRecDepth 4000 in
theorem jl_Mod_ways_4 {K : KK} (hK : kOK K) (x0 : Int32) (kx : Int32 → Int32 → HI → HL → Option Out) (hkx : ∀ (m1 : Int32) (m2 : Int32) (X : HI) (Y : HL), JO K "BrinePansModel" prog_8_method_57_code 3 (some .int) rm_Mod_ways 0 0 (MZ K) 19 [none, some (.int m1), none] [] X Y (kx m1 m2 X Y)) : ∀ (n : Nat) (m1 : Int32) (m2 : Int32) (X : HI) (Y : HL), JO K "BrinePansModel" prog_8_method_57_code 3 (some .int) rm_Mod_ways 0 0 (MZ K) 4 [some (.int x0), some (.int m1), some (.int m2)] [] X Y (l_Mod_ways_4 x0 kx n m1 m2 X Y) := by
  intro n
  induction n with
  | zero =>
    intro m1 m2 X Y
    rw [l_Mod_ways_4]
    exact j_none
  | succ n ih =>
    intro m1 m2 X Y
    rw [l_Mod_ways_4]
    refine j_iload_n (i := 2) (x := m2) (q := 5) d_Mod_ways_4 rfl rfl rfl ?_
    refine j_iload_n (i := 0) (x := x0) (q := 6) d_Mod_ways_5 rfl rfl rfl ?_
    refine j_icmp_gt (t := 19) (q := 9) d_Mod_ways_6 (by decide) rfl ?_ ?_
    · refine j_sub (L' := [none, some (.int m1), none]) ⟨rfl, trivial⟩ ?_
      exact hkx m1 m2 X Y
    · refine j_iload_n (i := 1) (x := m1) (q := 10) d_Mod_ways_9 rfl rfl rfl ?_
      refine j_iload_n (i := 2) (x := m2) (q := 11) d_Mod_ways_10 rfl rfl rfl ?_
      refine j_imul (q := 12) d_Mod_ways_11 rfl ?_
      refine j_lt (fun v1 => ?_)
      refine j_istore_n (i := 1) (L' := [some (.int x0), some (.int v1), some (.int m2)]) (q := 13) d_Mod_ways_12 rfl (by decide) rfl rfl rfl ?_
      refine j_iinc (i := 2) (x := m2) (d := 1) (L' := [some (.int x0), some (.int v1), some (.int (m2 + (1 : Int32)))]) (q := 16) d_Mod_ways_13 rfl (by decide) (by decide) rfl rfl rfl ?_
      refine j_goto (q := 4) d_Mod_ways_16 (by decide) ?_
      refine j_sub (L' := [some (.int x0), some (.int v1), some (.int (m2 + (1 : Int32)))]) ⟨rfl, ⟨rfl, ⟨rfl, trivial⟩⟩⟩ ?_
      exact ih v1 (m2 + (1 : Int32)) X Y
set_option maxRecDepth 4000 in
theorem c_Mod_ways {K : KK} (hK : kOK K) (x0 : Int32) (X : HI) (Y : HL) : CT K y_Mod_ways prog_8_method_57_code 3 (some .int) rm_Mod_ways [.int x0] X Y (f_Mod_ways x0 X Y) := by
  refine ct_of hK (L := [some (.int x0), none, none]) (by decide) ⟨rfl, trivial⟩ (Nat.le_of_ble_eq_true rfl) ?_
  unfold f_Mod_ways
  refine j_iconst (v := 1) (q := 1) d_Mod_ways_0 (by decide) rfl ?_
  refine j_istore_n (i := 1) (L' := [some (.int x0), some (.int (1 : Int32)), none]) (q := 2) d_Mod_ways_1 rfl (by decide) rfl rfl rfl ?_
  refine j_iconst (v := 2) (q := 3) d_Mod_ways_2 (by decide) rfl ?_
  refine j_istore_n (i := 2) (L' := [some (.int x0), some (.int (1 : Int32)), some (.int (2 : Int32))]) (q := 4) d_Mod_ways_3 rfl (by decide) rfl rfl rfl ?_
  refine j_sub (L' := [some (.int x0), some (.int (1 : Int32)), some (.int (2 : Int32))]) ⟨rfl, ⟨rfl, ⟨rfl, trivial⟩⟩⟩ ?_
  refine jl_Mod_ways_4 hK x0 _ (fun w2 w3 X4 Y5 => ?_) 256 (1 : Int32) (2 : Int32) X Y
  refine j_iload_n (i := 1) (x := w2) (q := 20) d_Mod_ways_19 rfl rfl rfl ?_
  exact j_iret d_Mod_ways_20
def l_Mod_divisor_13 (kx : Int32 → Int32 → HI → HL → Option Out) : Nat → Int32 → Int32 → HI → HL → Option Out
  | 0, _, _, _, _ => none
  | n + 1, m2, m3, X, Y =>
    (if m3 = 0 then
    (kx m2 m3 X Y)
    else
    gd (nzb m3) (
    lt (m2 - m2 / m3 * m3) (fun v1 =>
    (l_Mod_divisor_13 kx n m3 v1 X Y))))
def b_Mod_divisor_10 (x1 : Int32) (s0 : Int32) (X : HI) (Y : HL) : Option Out :=
    (l_Mod_divisor_13 (fun w2 w3 X4 Y5 =>
    (rI w2 X4 Y5)) 256 s0 x1 X Y)
def f_Mod_divisor (x0 : Int32) (x1 : Int32) (X : HI) (Y : HL) : Option Out :=
    (if 0 ≤ x0 then
    (b_Mod_divisor_10 x1 x0 X Y)
    else
    (b_Mod_divisor_10 x1 (-x0) X Y))
set_option maxRecDepth 4000 in
theorem jl_Mod_divisor_13 {K : KK} (hK : kOK K) (kx : Int32 → Int32 → HI → HL → Option Out) (hkx : ∀ (m2 : Int32) (m3 : Int32) (X : HI) (Y : HL), JO K "BrinePansModel" prog_8_method_58_code 5 (some .int) rm_Mod_divisor 0 0 (MZ K) 30 [none, none, some (.int m2), none, none] [] X Y (kx m2 m3 X Y)) : ∀ (n : Nat) (m2 : Int32) (m3 : Int32) (X : HI) (Y : HL), JO K "BrinePansModel" prog_8_method_58_code 5 (some .int) rm_Mod_divisor 0 0 (MZ K) 13 [none, none, some (.int m2), some (.int m3), none] [] X Y (l_Mod_divisor_13 kx n m2 m3 X Y) := by
  intro n
  induction n with
  | zero =>
    intro m2 m3 X Y
    rw [l_Mod_divisor_13]
    exact j_none
  | succ n ih =>
    intro m2 m3 X Y
    rw [l_Mod_divisor_13]
    refine j_iload_n (i := 3) (x := m3) (q := 14) d_Mod_divisor_13 rfl rfl rfl ?_
    refine j_if_eq (t := 30) (q := 17) d_Mod_divisor_14 (by decide) rfl ?_ ?_
    · refine j_sub (L' := [none, none, some (.int m2), none, none]) ⟨rfl, trivial⟩ ?_
      exact hkx m2 m3 X Y
    · refine j_iload_n (i := 2) (x := m2) (q := 18) d_Mod_divisor_17 rfl rfl rfl ?_
      refine j_iload_n (i := 3) (x := m3) (q := 19) d_Mod_divisor_18 rfl rfl rfl ?_
      refine j_irem (q := 20) d_Mod_divisor_19 rfl ?_
      refine j_lt (fun v1 => ?_)
      refine j_istore (i := 4) (L' := [none, none, some (.int m2), some (.int m3), some (.int v1)]) (q := 22) d_Mod_divisor_20 (by decide) rfl rfl rfl ?_
      refine j_iload_n (i := 3) (x := m3) (q := 23) d_Mod_divisor_22 rfl rfl rfl ?_
      refine j_istore_n (i := 2) (L' := [none, none, some (.int m3), some (.int m3), some (.int v1)]) (q := 24) d_Mod_divisor_23 rfl (by decide) rfl rfl rfl ?_
      refine j_iload (i := 4) (x := v1) (q := 26) d_Mod_divisor_24 rfl rfl ?_
      refine j_istore_n (i := 3) (L' := [none, none, some (.int m3), some (.int v1), some (.int v1)]) (q := 27) d_Mod_divisor_26 rfl (by decide) rfl rfl rfl ?_
      refine j_goto (q := 13) d_Mod_divisor_27 (by decide) ?_
      refine j_sub (L' := [none, none, some (.int m3), some (.int v1), none]) ⟨rfl, ⟨rfl, trivial⟩⟩ ?_
      exact ih m3 v1 X Y
set_option maxRecDepth 4000 in
theorem jb_Mod_divisor_10 {K : KK} (hK : kOK K) (x1 : Int32) (s0 : Int32) (X : HI) (Y : HL) : JO K "BrinePansModel" prog_8_method_58_code 5 (some .int) rm_Mod_divisor 0 0 (MZ K) 10 [none, some (.int x1), none, none, none] [.int s0] X Y (b_Mod_divisor_10 x1 s0 X Y) := by
  unfold b_Mod_divisor_10
  refine j_istore_n (i := 2) (L' := [none, some (.int x1), some (.int s0), none, none]) (q := 11) d_Mod_divisor_10 rfl (by decide) rfl rfl rfl ?_
  refine j_iload_n (i := 1) (x := x1) (q := 12) d_Mod_divisor_11 rfl rfl rfl ?_
  refine j_istore_n (i := 3) (L' := [none, some (.int x1), some (.int s0), some (.int x1), none]) (q := 13) d_Mod_divisor_12 rfl (by decide) rfl rfl rfl ?_
  refine j_sub (L' := [none, none, some (.int s0), some (.int x1), none]) ⟨rfl, ⟨rfl, trivial⟩⟩ ?_
  refine jl_Mod_divisor_13 hK _ (fun w2 w3 X4 Y5 => ?_) 256 s0 x1 X Y
  refine j_iload_n (i := 2) (x := w2) (q := 31) d_Mod_divisor_30 rfl rfl rfl ?_
  exact j_iret d_Mod_divisor_31
set_option maxRecDepth 4000 in
theorem c_Mod_divisor {K : KK} (hK : kOK K) (x0 : Int32) (x1 : Int32) (X : HI) (Y : HL) : CT K y_Mod_divisor prog_8_method_58_code 5 (some .int) rm_Mod_divisor [.int x0, .int x1] X Y (f_Mod_divisor x0 x1 X Y) := by
  refine ct_of hK (L := [some (.int x0), some (.int x1), none, none, none]) (by decide) ⟨rfl, ⟨rfl, trivial⟩⟩ (Nat.le_of_ble_eq_true rfl) ?_
  unfold f_Mod_divisor
  refine j_iload_n (i := 0) (x := x0) (q := 1) d_Mod_divisor_0 rfl rfl rfl ?_
  refine j_if_ge (t := 9) (q := 4) d_Mod_divisor_1 (by decide) rfl ?_ ?_
  · refine j_iload_n (i := 0) (x := x0) (q := 10) d_Mod_divisor_9 rfl rfl rfl ?_
    refine j_sub (L' := [none, some (.int x1), none, none, none]) ⟨rfl, trivial⟩ ?_
    exact jb_Mod_divisor_10 hK x1 x0 X Y
  · refine j_iload_n (i := 0) (x := x0) (q := 5) d_Mod_divisor_4 rfl rfl rfl ?_
    refine j_ineg (q := 6) d_Mod_divisor_5 rfl ?_
    refine j_goto (q := 10) d_Mod_divisor_6 (by decide) ?_
    refine j_sub (L' := [none, some (.int x1), none, none, none]) ⟨rfl, trivial⟩ ?_
    exact jb_Mod_divisor_10 hK x1 (-x0) X Y
def f_Mod_fraction (x0 : Int32) (x1 : Int32) (x2 : Int32) (X : HI) (Y : HL) : Option Out :=
    bi (f_Mod_divisor x0 x1 X Y) (fun r3 X1 Y2 =>
    (if x2 = 0 then
    gd (nzb r3) (
    (rI (x1 / r3) X1 Y2))
    else
    gd (nzb r3) (
    (rI (x0 / r3) X1 Y2))))
set_option maxRecDepth 4000 in
theorem c_Mod_fraction {K : KK} (hK : kOK K) (x0 : Int32) (x1 : Int32) (x2 : Int32) (X : HI) (Y : HL) : CT K y_Mod_fraction prog_8_method_59_code 4 (some .int) rm_Mod_fraction [.int x0, .int x1, .int x2] X Y (f_Mod_fraction x0 x1 x2 X Y) := by
  refine ct_of hK (L := [some (.int x0), some (.int x1), some (.int x2), none]) (by decide) ⟨rfl, ⟨rfl, ⟨rfl, trivial⟩⟩⟩ (Nat.le_of_ble_eq_true rfl) ?_
  unfold f_Mod_fraction
  refine j_iload_n (i := 0) (x := x0) (q := 1) d_Mod_fraction_0 rfl rfl rfl ?_
  refine j_iload_n (i := 1) (x := x1) (q := 2) d_Mod_fraction_1 rfl rfl rfl ?_
  refine j_callSi (S := []) (q := 5) [.int x0, .int x1] d_Mod_fraction_2 mw_Mod_divisor ms_Mod_divisor ml_Mod_226 rfl rfl (c_Mod_divisor hK x0 x1 X Y) ⟨⟨rfl, rfl⟩, ⟨Nat.le_of_ble_eq_true rfl, Nat.le_of_ble_eq_true rfl⟩, ⟨Nat.le_refl 0, Nat.le_refl 0⟩⟩ (Nat.le_of_ble_eq_true rfl) rfl (fun r3 X1 Y2 => ?_)
  refine j_istore_n (i := 3) (L' := [some (.int x0), some (.int x1), some (.int x2), some (.int r3)]) (q := 6) d_Mod_fraction_5 rfl (by decide) rfl rfl rfl ?_
  refine j_iload_n (i := 2) (x := x2) (q := 7) d_Mod_fraction_6 rfl rfl rfl ?_
  refine j_if_eq (t := 16) (q := 10) d_Mod_fraction_7 (by decide) rfl ?_ ?_
  · refine j_iload_n (i := 1) (x := x1) (q := 17) d_Mod_fraction_16 rfl rfl rfl ?_
    refine j_iload_n (i := 3) (x := r3) (q := 18) d_Mod_fraction_17 rfl rfl rfl ?_
    refine j_idiv (q := 19) d_Mod_fraction_18 rfl ?_
    exact j_iret d_Mod_fraction_19
  · refine j_iload_n (i := 0) (x := x0) (q := 11) d_Mod_fraction_10 rfl rfl rfl ?_
    refine j_iload_n (i := 3) (x := r3) (q := 12) d_Mod_fraction_11 rfl rfl rfl ?_
    refine j_idiv (q := 13) d_Mod_fraction_12 rfl ?_
    refine j_goto (q := 19) d_Mod_fraction_13 (by decide) ?_
    exact j_iret d_Mod_fraction_19
def b_Mod_share_102 (kc : Int32 → HI → HL → Option Out) (kx : Int32 → HI → HL → Option Out) (x1 : Int32) (x2 : Int32) (x3 : Int32) (x4 : Int32) (s0 : Int32) (s1 : Int32) (X : HI) (Y : HL) : Option Out :=
    wr (ixb s1 15) (up X 77 s1.toNatClampNeg s0) (fun X14 =>
    (kc (x4 + (1 : Int32)) X14 Y))
def b_Mod_share_69 (kc : Int32 → HI → HL → Option Out) (kx : Int32 → HI → HL → Option Out) (x1 : Int32) (x2 : Int32) (x3 : Int32) (x4 : Int32) (s0 : Int32) (s1 : Int32) (X : HI) (Y : HL) : Option Out :=
    wr (ixb s1 15) (up X 77 s1.toNatClampNeg s0) (fun X10 =>
    bi (f_Mod_has x3 x4 X10 Y) (fun r13 X11 Y12 =>
    (if r13 = 0 then
    (b_Mod_share_102 kc kx x1 x2 x3 x4 (0 : Int32) ((6 : Int32) + x4) X11 Y12)
    else
    gd (ixb ((6 : Int32) + x4) 15) (
    (b_Mod_share_102 kc kx x1 x2 x3 x4 (X11 77 ((6 : Int32) + x4).toNatClampNeg) ((6 : Int32) + x4) X11 Y12)))))
def l_Mod_share_34 (x1 : Int32) (x2 : Int32) (x3 : Int32) (kx : Int32 → HI → HL → Option Out) : Nat → Int32 → HI → HL → Option Out
  | 0, _, _, _ => none
  | n + 1, m4, X, Y =>
    (if (X 70 4) ≤ m4 then
    (kx m4 X Y)
    else
    bi (f_Mod_has x3 m4 X Y) (fun r9 X7 Y8 =>
    (if r9 = 0 then
    (b_Mod_share_69 (fun a4 A B => l_Mod_share_34 x1 x2 x3 kx n a4 A B) kx x1 x2 x3 m4 (0 : Int32) m4 X7 Y8)
    else
    gd (ixb m4 15) (
    (b_Mod_share_69 (fun a4 A B => l_Mod_share_34 x1 x2 x3 kx n a4 A B) kx x1 x2 x3 m4 (X7 77 m4.toNatClampNeg) m4 X7 Y8)))))
def l_Mod_share_17 (x1 : Int32) (x2 : Int32) (kx : Int32 → HI → HL → Option Out) : Nat → Int32 → HI → HL → Option Out
  | 0, _, _, _ => none
  | n + 1, m3, X, Y =>
    (if ((1 : Int32) <<< ((X 70 4) &&& 31)) ≤ m3 then
    (kx m3 X Y)
    else
    bv (f_Mod_begin X Y) (fun X5 Y6 =>
    (l_Mod_share_34 x1 x2 m3 (fun w15 X16 Y17 =>
    bv (f_Mod_goDays 77 (4 : Int32) X16 Y17) (fun X18 Y19 =>
    bi (f_Mod_crustOfAll 77 X18 Y19) (fun r22 X20 Y21 =>
    wr (ixb m3 64) (up X20 85 m3.toNatClampNeg r22) (fun X23 =>
    (l_Mod_share_17 x1 x2 kx n (m3 + (1 : Int32)) X23 Y21))))) 256 (0 : Int32) X5 Y6)))
def b_Mod_share_211 (kc : Int32 → Int32 → HI → HL → Option Out) (kx : Int32 → Int32 → HI → HL → Option Out) (x1 : Int32) (x2 : Int32) (x3 : Int32) (x4 : Int32) (X : HI) (Y : HL) : Option Out :=
    (kc x3 (x4 + (1 : Int32)) X Y)
def l_Mod_share_143 (x1 : Int32) (x2 : Int32) (kx : Int32 → Int32 → HI → HL → Option Out) : Nat → Int32 → Int32 → HI → HL → Option Out
  | 0, _, _, _, _ => none
  | n + 1, m3, m4, X, Y =>
    (if ((1 : Int32) <<< ((X 70 4) &&& 31)) ≤ m4 then
    (kx m3 m4 X Y)
    else
    bi (f_Mod_has m4 x1 X Y) (fun r29 X27 Y28 =>
    (if r29 = 0 then
    bi (f_Mod_many m4 X27 Y28) (fun r32 X30 Y31 =>
    bi (f_Mod_ways r32 X30 Y31) (fun r35 X33 Y34 =>
    bi (f_Mod_ways (((X33 70 4) - (1 : Int32)) - r32) X33 Y34) (fun r38 X36 Y37 =>
    gd (ixb (m4 ||| ((1 : Int32) <<< (x1 &&& 31))) 64) (
    gd (ixb m4 64) (
    lt (m3 + ((r35 * r38) * ((X36 85 (m4 ||| ((1 : Int32) <<< (x1 &&& 31))).toNatClampNeg) - (X36 85 m4.toNatClampNeg)))) (fun v39 =>
    (b_Mod_share_211 (fun a3 a4 A B => l_Mod_share_143 x1 x2 kx n a3 a4 A B) kx x1 x2 v39 m4 X36 Y37)))))))
    else
    (b_Mod_share_211 (fun a3 a4 A B => l_Mod_share_143 x1 x2 kx n a3 a4 A B) kx x1 x2 m3 m4 X27 Y28))))
def f_Mod_share (x1 : Int32) (x2 : Int32) (X : HI) (Y : HL) : Option Out :=
    lh (up X 70 0 (0 : Int32)) (fun X1 =>
    bi (f_Mod_noPan x1 X1 Y) (fun r4 X2 Y3 =>
    (if r4 = 0 then
    (l_Mod_share_17 x1 x2 (fun w24 X25 Y26 =>
    (l_Mod_share_143 x1 x2 (fun w40 w41 X42 Y43 =>
    bi (f_Mod_ways (X42 70 4) X42 Y43) (fun r46 X44 Y45 =>
    bi (f_Mod_fraction w40 r46 x2 X44 Y45) (fun r49 X47 Y48 =>
    (rI r49 X47 Y48)))) 256 (0 : Int32) (0 : Int32) X25 Y26)) 256 (0 : Int32) X2 Y3)
    else
    (rI (-1 : Int32) X2 Y3))))
set_option maxRecDepth 4000 in
theorem jb_Mod_share_102 {K : KK} (hK : kOK K) (kc : Int32 → HI → HL → Option Out) (kx : Int32 → HI → HL → Option Out) (x1 : Int32) (x2 : Int32) (x3 : Int32) (x4 : Int32) (s0 : Int32) (s1 : Int32) (hkc : ∀ (m4 : Int32) (X : HI) (Y : HL), JO K "BrinePansModel" prog_8_method_60_code 6 (some .int) rm_Mod_share 0 0 (MZ K) 34 [some (.ref 70), some (.int x1), some (.int x2), some (.int x3), some (.int m4), none] [] X Y (kc m4 X Y)) (hkx : ∀ (m4 : Int32) (X : HI) (Y : HL), JO K "BrinePansModel" prog_8_method_60_code 6 (some .int) rm_Mod_share 0 0 (MZ K) 109 [some (.ref 70), some (.int x1), some (.int x2), some (.int x3), none, none] [] X Y (kx m4 X Y)) (X : HI) (Y : HL) : JO K "BrinePansModel" prog_8_method_60_code 6 (some .int) rm_Mod_share 0 0 (MZ K) 102 [some (.ref 70), some (.int x1), some (.int x2), some (.int x3), some (.int x4), none] [.int s0, .int s1, .ref 77] X Y (b_Mod_share_102 kc kx x1 x2 x3 x4 s0 s1 X Y) := by
  unfold b_Mod_share_102
  refine j_iast (q := 103) d_Mod_share_102 ai_77 rfl (fun X14 => ?_)
  refine j_iinc (i := 4) (x := x4) (d := 1) (L' := [some (.ref 70), some (.int x1), some (.int x2), some (.int x3), some (.int (x4 + (1 : Int32))), none]) (q := 106) d_Mod_share_103 rfl (by decide) (by decide) rfl rfl rfl ?_
  refine j_goto (q := 34) d_Mod_share_106 (by decide) ?_
  refine j_sub (L' := [some (.ref 70), some (.int x1), some (.int x2), some (.int x3), some (.int (x4 + (1 : Int32))), none]) ⟨rfl, ⟨rfl, ⟨rfl, ⟨rfl, ⟨rfl, trivial⟩⟩⟩⟩⟩ ?_
  exact hkc (x4 + (1 : Int32)) X14 Y
set_option maxRecDepth 4000 in
theorem jb_Mod_share_69 {K : KK} (hK : kOK K) (kc : Int32 → HI → HL → Option Out) (kx : Int32 → HI → HL → Option Out) (x1 : Int32) (x2 : Int32) (x3 : Int32) (x4 : Int32) (s0 : Int32) (s1 : Int32) (hkc : ∀ (m4 : Int32) (X : HI) (Y : HL), JO K "BrinePansModel" prog_8_method_60_code 6 (some .int) rm_Mod_share 0 0 (MZ K) 34 [some (.ref 70), some (.int x1), some (.int x2), some (.int x3), some (.int m4), none] [] X Y (kc m4 X Y)) (hkx : ∀ (m4 : Int32) (X : HI) (Y : HL), JO K "BrinePansModel" prog_8_method_60_code 6 (some .int) rm_Mod_share 0 0 (MZ K) 109 [some (.ref 70), some (.int x1), some (.int x2), some (.int x3), none, none] [] X Y (kx m4 X Y)) (X : HI) (Y : HL) : JO K "BrinePansModel" prog_8_method_60_code 6 (some .int) rm_Mod_share 0 0 (MZ K) 69 [some (.ref 70), some (.int x1), some (.int x2), some (.int x3), some (.int x4), none] [.int s0, .int s1, .ref 77] X Y (b_Mod_share_69 kc kx x1 x2 x3 x4 s0 s1 X Y) := by
  unfold b_Mod_share_69
  refine j_iast (q := 70) d_Mod_share_69 ai_77 rfl (fun X10 => ?_)
  refine j_aload_n (i := 0) (x := 70) (q := 71) d_Mod_share_70 rfl rfl rfl ?_
  refine j_get (v := .ref 77) (q := 74) d_Mod_share_71 fk_Mod_28 fv_70_13 rfl ?_
  refine j_bipush (v := 6) (q := 76) d_Mod_share_74 (by decide +kernel) rfl ?_
  refine j_iload (i := 4) (x := x4) (q := 78) d_Mod_share_76 rfl rfl ?_
  refine j_iadd (q := 79) d_Mod_share_78 rfl ?_
  refine j_iload_n (i := 3) (x := x3) (q := 80) d_Mod_share_79 rfl rfl rfl ?_
  refine j_iload (i := 4) (x := x4) (q := 82) d_Mod_share_80 rfl rfl ?_
  refine j_callSi (S := [.int ((6 : Int32) + x4), .ref 77]) (q := 85) [.int x3, .int x4] d_Mod_share_82 mw_Mod_has ms_Mod_has ml_Mod_124 rfl rfl (c_Mod_has hK x3 x4 X10 Y) ⟨⟨rfl, rfl⟩, ⟨Nat.le_of_ble_eq_true rfl, Nat.le_of_ble_eq_true rfl⟩, ⟨Nat.le_refl 0, Nat.le_refl 0⟩⟩ (Nat.le_of_ble_eq_true rfl) rfl (fun r13 X11 Y12 => ?_)
  refine j_if_eq (t := 101) (q := 88) d_Mod_share_85 (by decide) rfl ?_ ?_
  · refine j_iconst (v := 0) (q := 102) d_Mod_share_101 (by decide) rfl ?_
    refine j_sub (L' := [some (.ref 70), some (.int x1), some (.int x2), some (.int x3), some (.int x4), none]) ⟨rfl, ⟨rfl, ⟨rfl, ⟨rfl, ⟨rfl, trivial⟩⟩⟩⟩⟩ ?_
    exact jb_Mod_share_102 hK kc kx x1 x2 x3 x4 (0 : Int32) ((6 : Int32) + x4) hkc hkx X11 Y12
  · refine j_aload_n (i := 0) (x := 70) (q := 89) d_Mod_share_88 rfl rfl rfl ?_
    refine j_get (v := .ref 77) (q := 92) d_Mod_share_89 fk_Mod_28 fv_70_13 rfl ?_
    refine j_bipush (v := 6) (q := 94) d_Mod_share_92 (by decide +kernel) rfl ?_
    refine j_iload (i := 4) (x := x4) (q := 96) d_Mod_share_94 rfl rfl ?_
    refine j_iadd (q := 97) d_Mod_share_96 rfl ?_
    refine j_iald (q := 98) d_Mod_share_97 ai_77 rfl ?_
    refine j_goto (q := 102) d_Mod_share_98 (by decide) ?_
    refine j_sub (L' := [some (.ref 70), some (.int x1), some (.int x2), some (.int x3), some (.int x4), none]) ⟨rfl, ⟨rfl, ⟨rfl, ⟨rfl, ⟨rfl, trivial⟩⟩⟩⟩⟩ ?_
    exact jb_Mod_share_102 hK kc kx x1 x2 x3 x4 (X11 77 ((6 : Int32) + x4).toNatClampNeg) ((6 : Int32) + x4) hkc hkx X11 Y12
set_option maxRecDepth 4000 in
theorem jl_Mod_share_34 {K : KK} (hK : kOK K) (x1 : Int32) (x2 : Int32) (x3 : Int32) (kx : Int32 → HI → HL → Option Out) (hkx : ∀ (m4 : Int32) (X : HI) (Y : HL), JO K "BrinePansModel" prog_8_method_60_code 6 (some .int) rm_Mod_share 0 0 (MZ K) 109 [some (.ref 70), some (.int x1), some (.int x2), some (.int x3), none, none] [] X Y (kx m4 X Y)) : ∀ (n : Nat) (m4 : Int32) (X : HI) (Y : HL), JO K "BrinePansModel" prog_8_method_60_code 6 (some .int) rm_Mod_share 0 0 (MZ K) 34 [some (.ref 70), some (.int x1), some (.int x2), some (.int x3), some (.int m4), none] [] X Y (l_Mod_share_34 x1 x2 x3 kx n m4 X Y) := by
  intro n
  induction n with
  | zero =>
    intro m4 X Y
    rw [l_Mod_share_34]
    exact j_none
  | succ n ih =>
    intro m4 X Y
    rw [l_Mod_share_34]
    refine j_iload (i := 4) (x := m4) (q := 36) d_Mod_share_34 rfl rfl ?_
    refine j_aload_n (i := 0) (x := 70) (q := 37) d_Mod_share_36 rfl rfl rfl ?_
    refine j_get (v := .int (X 70 4)) (q := 40) d_Mod_share_37 fk_Mod_60 fv_70_4 rfl ?_
    refine j_icmp_ge (t := 109) (q := 43) d_Mod_share_40 (by decide) rfl ?_ ?_
    · refine j_sub (L' := [some (.ref 70), some (.int x1), some (.int x2), some (.int x3), none, none]) ⟨rfl, ⟨rfl, ⟨rfl, ⟨rfl, trivial⟩⟩⟩⟩ ?_
      exact hkx m4 X Y
    · refine j_aload_n (i := 0) (x := 70) (q := 44) d_Mod_share_43 rfl rfl rfl ?_
      refine j_get (v := .ref 77) (q := 47) d_Mod_share_44 fk_Mod_28 fv_70_13 rfl ?_
      refine j_iload (i := 4) (x := m4) (q := 49) d_Mod_share_47 rfl rfl ?_
      refine j_iload_n (i := 3) (x := x3) (q := 50) d_Mod_share_49 rfl rfl rfl ?_
      refine j_iload (i := 4) (x := m4) (q := 52) d_Mod_share_50 rfl rfl ?_
      refine j_callSi (S := [.int m4, .ref 77]) (q := 55) [.int x3, .int m4] d_Mod_share_52 mw_Mod_has ms_Mod_has ml_Mod_124 rfl rfl (c_Mod_has hK x3 m4 X Y) ⟨⟨rfl, rfl⟩, ⟨Nat.le_of_ble_eq_true rfl, Nat.le_of_ble_eq_true rfl⟩, ⟨Nat.le_refl 0, Nat.le_refl 0⟩⟩ (Nat.le_of_ble_eq_true rfl) rfl (fun r9 X7 Y8 => ?_)
      refine j_if_eq (t := 68) (q := 58) d_Mod_share_55 (by decide) rfl ?_ ?_
      · refine j_iconst (v := 0) (q := 69) d_Mod_share_68 (by decide) rfl ?_
        refine j_sub (L' := [some (.ref 70), some (.int x1), some (.int x2), some (.int x3), some (.int m4), none]) ⟨rfl, ⟨rfl, ⟨rfl, ⟨rfl, ⟨rfl, trivial⟩⟩⟩⟩⟩ ?_
        exact jb_Mod_share_69 hK (fun a4 A B => l_Mod_share_34 x1 x2 x3 kx n a4 A B) kx x1 x2 x3 m4 (0 : Int32) m4 ih hkx X7 Y8
      · refine j_aload_n (i := 0) (x := 70) (q := 59) d_Mod_share_58 rfl rfl rfl ?_
        refine j_get (v := .ref 77) (q := 62) d_Mod_share_59 fk_Mod_28 fv_70_13 rfl ?_
        refine j_iload (i := 4) (x := m4) (q := 64) d_Mod_share_62 rfl rfl ?_
        refine j_iald (q := 65) d_Mod_share_64 ai_77 rfl ?_
        refine j_goto (q := 69) d_Mod_share_65 (by decide) ?_
        refine j_sub (L' := [some (.ref 70), some (.int x1), some (.int x2), some (.int x3), some (.int m4), none]) ⟨rfl, ⟨rfl, ⟨rfl, ⟨rfl, ⟨rfl, trivial⟩⟩⟩⟩⟩ ?_
        exact jb_Mod_share_69 hK (fun a4 A B => l_Mod_share_34 x1 x2 x3 kx n a4 A B) kx x1 x2 x3 m4 (X7 77 m4.toNatClampNeg) m4 ih hkx X7 Y8
set_option maxRecDepth 4000 in
theorem jl_Mod_share_17 {K : KK} (hK : kOK K) (x1 : Int32) (x2 : Int32) (kx : Int32 → HI → HL → Option Out) (hkx : ∀ (m3 : Int32) (X : HI) (Y : HL), JO K "BrinePansModel" prog_8_method_60_code 6 (some .int) rm_Mod_share 0 0 (MZ K) 138 [some (.ref 70), some (.int x1), some (.int x2), none, none, none] [] X Y (kx m3 X Y)) : ∀ (n : Nat) (m3 : Int32) (X : HI) (Y : HL), JO K "BrinePansModel" prog_8_method_60_code 6 (some .int) rm_Mod_share 0 0 (MZ K) 17 [some (.ref 70), some (.int x1), some (.int x2), some (.int m3), none, none] [] X Y (l_Mod_share_17 x1 x2 kx n m3 X Y) := by
  intro n
  induction n with
  | zero =>
    intro m3 X Y
    rw [l_Mod_share_17]
    exact j_none
  | succ n ih =>
    intro m3 X Y
    rw [l_Mod_share_17]
    refine j_iload_n (i := 3) (x := m3) (q := 18) d_Mod_share_17 rfl rfl rfl ?_
    refine j_iconst (v := 1) (q := 19) d_Mod_share_18 (by decide) rfl ?_
    refine j_aload_n (i := 0) (x := 70) (q := 20) d_Mod_share_19 rfl rfl rfl ?_
    refine j_get (v := .int (X 70 4)) (q := 23) d_Mod_share_20 fk_Mod_60 fv_70_4 rfl ?_
    refine j_ishl (q := 24) d_Mod_share_23 rfl ?_
    refine j_icmp_ge (t := 138) (q := 27) d_Mod_share_24 (by decide) rfl ?_ ?_
    · refine j_sub (L' := [some (.ref 70), some (.int x1), some (.int x2), none, none, none]) ⟨rfl, ⟨rfl, ⟨rfl, trivial⟩⟩⟩ ?_
      exact hkx m3 X Y
    · refine j_aload_n (i := 0) (x := 70) (q := 28) d_Mod_share_27 rfl rfl rfl ?_
      refine j_callVv (a := 70) (S := []) (q := 31) [] d_Mod_share_28 mw_Mod_begin mv_Mod_begin ml_Mod_182 ob_70 rfl rfl (c_Mod_begin hK X Y) ⟨⟨rfl, rfl⟩, ⟨Nat.le_of_ble_eq_true rfl, Nat.le_of_ble_eq_true rfl⟩, ⟨Nat.le_refl 0, Nat.le_refl 0⟩⟩ (Nat.le_of_ble_eq_true rfl) rfl (fun X5 Y6 => ?_)
      refine j_iconst (v := 0) (q := 32) d_Mod_share_31 (by decide) rfl ?_
      refine j_istore (i := 4) (L' := [some (.ref 70), some (.int x1), some (.int x2), some (.int m3), some (.int (0 : Int32)), none]) (q := 34) d_Mod_share_32 (by decide) rfl rfl rfl ?_
      refine j_sub (L' := [some (.ref 70), some (.int x1), some (.int x2), some (.int m3), some (.int (0 : Int32)), none]) ⟨rfl, ⟨rfl, ⟨rfl, ⟨rfl, ⟨rfl, trivial⟩⟩⟩⟩⟩ ?_
      refine jl_Mod_share_34 hK x1 x2 m3 _ (fun w15 X16 Y17 => ?_) 256 (0 : Int32) X5 Y6
      refine j_aload_n (i := 0) (x := 70) (q := 110) d_Mod_share_109 rfl rfl rfl ?_
      refine j_aload_n (i := 0) (x := 70) (q := 111) d_Mod_share_110 rfl rfl rfl ?_
      refine j_get (v := .ref 77) (q := 114) d_Mod_share_111 fk_Mod_28 fv_70_13 rfl ?_
      refine j_iconst (v := 4) (q := 115) d_Mod_share_114 (by decide) rfl ?_
      refine j_callVv (a := 70) (S := []) (q := 118) [.ref 77, .int (4 : Int32)] d_Mod_share_115 mw_Mod_goDays mv_Mod_goDays ml_Mod_185 ob_70 rfl rfl (c_Mod_goDays hK 77 ai_77 (4 : Int32) X16 Y17) ⟨⟨rfl, rfl⟩, ⟨Nat.le_of_ble_eq_true rfl, Nat.le_of_ble_eq_true rfl⟩, ⟨Nat.le_refl 0, Nat.le_refl 0⟩⟩ (Nat.le_of_ble_eq_true rfl) rfl (fun X18 Y19 => ?_)
      refine j_aload_n (i := 0) (x := 70) (q := 119) d_Mod_share_118 rfl rfl rfl ?_
      refine j_get (v := .ref 85) (q := 122) d_Mod_share_119 fk_Mod_53 fv_70_30 rfl ?_
      refine j_iload_n (i := 3) (x := m3) (q := 123) d_Mod_share_122 rfl rfl rfl ?_
      refine j_aload_n (i := 0) (x := 70) (q := 124) d_Mod_share_123 rfl rfl rfl ?_
      refine j_aload_n (i := 0) (x := 70) (q := 125) d_Mod_share_124 rfl rfl rfl ?_
      refine j_get (v := .ref 77) (q := 128) d_Mod_share_125 fk_Mod_28 fv_70_13 rfl ?_
      refine j_callVi (a := 70) (S := [.int m3, .ref 85]) (q := 131) [.ref 77] d_Mod_share_128 mw_Mod_crustOfAll mv_Mod_crustOfAll ml_Mod_150 ob_70 rfl rfl (c_Mod_crustOfAll hK 77 ai_77 X18 Y19) ⟨⟨rfl, rfl⟩, ⟨Nat.le_of_ble_eq_true rfl, Nat.le_of_ble_eq_true rfl⟩, ⟨Nat.le_refl 0, Nat.le_refl 0⟩⟩ (Nat.le_of_ble_eq_true rfl) rfl (fun r22 X20 Y21 => ?_)
      refine j_iast (q := 132) d_Mod_share_131 ai_85 rfl (fun X23 => ?_)
      refine j_iinc (i := 3) (x := m3) (d := 1) (L' := [some (.ref 70), some (.int x1), some (.int x2), some (.int (m3 + (1 : Int32))), none, none]) (q := 135) d_Mod_share_132 rfl (by decide) (by decide) rfl rfl rfl ?_
      refine j_goto (q := 17) d_Mod_share_135 (by decide) ?_
      refine j_sub (L' := [some (.ref 70), some (.int x1), some (.int x2), some (.int (m3 + (1 : Int32))), none, none]) ⟨rfl, ⟨rfl, ⟨rfl, ⟨rfl, trivial⟩⟩⟩⟩ ?_
      exact ih (m3 + (1 : Int32)) X23 Y21
set_option maxRecDepth 4000 in
theorem jb_Mod_share_211 {K : KK} (hK : kOK K) (kc : Int32 → Int32 → HI → HL → Option Out) (kx : Int32 → Int32 → HI → HL → Option Out) (x1 : Int32) (x2 : Int32) (x3 : Int32) (x4 : Int32) (hkc : ∀ (m3 : Int32) (m4 : Int32) (X : HI) (Y : HL), JO K "BrinePansModel" prog_8_method_60_code 6 (some .int) rm_Mod_share 0 0 (MZ K) 143 [some (.ref 70), some (.int x1), some (.int x2), some (.int m3), some (.int m4), none] [] X Y (kc m3 m4 X Y)) (hkx : ∀ (m3 : Int32) (m4 : Int32) (X : HI) (Y : HL), JO K "BrinePansModel" prog_8_method_60_code 6 (some .int) rm_Mod_share 0 0 (MZ K) 217 [some (.ref 70), none, some (.int x2), some (.int m3), none, none] [] X Y (kx m3 m4 X Y)) (X : HI) (Y : HL) : JO K "BrinePansModel" prog_8_method_60_code 6 (some .int) rm_Mod_share 0 0 (MZ K) 211 [some (.ref 70), some (.int x1), some (.int x2), some (.int x3), some (.int x4), none] [] X Y (b_Mod_share_211 kc kx x1 x2 x3 x4 X Y) := by
  unfold b_Mod_share_211
  refine j_iinc (i := 4) (x := x4) (d := 1) (L' := [some (.ref 70), some (.int x1), some (.int x2), some (.int x3), some (.int (x4 + (1 : Int32))), none]) (q := 214) d_Mod_share_211 rfl (by decide) (by decide) rfl rfl rfl ?_
  refine j_goto (q := 143) d_Mod_share_214 (by decide) ?_
  refine j_sub (L' := [some (.ref 70), some (.int x1), some (.int x2), some (.int x3), some (.int (x4 + (1 : Int32))), none]) ⟨rfl, ⟨rfl, ⟨rfl, ⟨rfl, ⟨rfl, trivial⟩⟩⟩⟩⟩ ?_
  exact hkc x3 (x4 + (1 : Int32)) X Y
set_option maxRecDepth 4000 in
theorem jl_Mod_share_143 {K : KK} (hK : kOK K) (x1 : Int32) (x2 : Int32) (kx : Int32 → Int32 → HI → HL → Option Out) (hkx : ∀ (m3 : Int32) (m4 : Int32) (X : HI) (Y : HL), JO K "BrinePansModel" prog_8_method_60_code 6 (some .int) rm_Mod_share 0 0 (MZ K) 217 [some (.ref 70), none, some (.int x2), some (.int m3), none, none] [] X Y (kx m3 m4 X Y)) : ∀ (n : Nat) (m3 : Int32) (m4 : Int32) (X : HI) (Y : HL), JO K "BrinePansModel" prog_8_method_60_code 6 (some .int) rm_Mod_share 0 0 (MZ K) 143 [some (.ref 70), some (.int x1), some (.int x2), some (.int m3), some (.int m4), none] [] X Y (l_Mod_share_143 x1 x2 kx n m3 m4 X Y) := by
  intro n
  induction n with
  | zero =>
    intro m3 m4 X Y
    rw [l_Mod_share_143]
    exact j_none
  | succ n ih =>
    intro m3 m4 X Y
    rw [l_Mod_share_143]
    refine j_iload (i := 4) (x := m4) (q := 145) d_Mod_share_143 rfl rfl ?_
    refine j_iconst (v := 1) (q := 146) d_Mod_share_145 (by decide) rfl ?_
    refine j_aload_n (i := 0) (x := 70) (q := 147) d_Mod_share_146 rfl rfl rfl ?_
    refine j_get (v := .int (X 70 4)) (q := 150) d_Mod_share_147 fk_Mod_60 fv_70_4 rfl ?_
    refine j_ishl (q := 151) d_Mod_share_150 rfl ?_
    refine j_icmp_ge (t := 217) (q := 154) d_Mod_share_151 (by decide) rfl ?_ ?_
    · refine j_sub (L' := [some (.ref 70), none, some (.int x2), some (.int m3), none, none]) ⟨rfl, ⟨rfl, ⟨rfl, trivial⟩⟩⟩ ?_
      exact hkx m3 m4 X Y
    · refine j_iload (i := 4) (x := m4) (q := 156) d_Mod_share_154 rfl rfl ?_
      refine j_iload_n (i := 1) (x := x1) (q := 157) d_Mod_share_156 rfl rfl rfl ?_
      refine j_callSi (S := []) (q := 160) [.int m4, .int x1] d_Mod_share_157 mw_Mod_has ms_Mod_has ml_Mod_124 rfl rfl (c_Mod_has hK m4 x1 X Y) ⟨⟨rfl, rfl⟩, ⟨Nat.le_of_ble_eq_true rfl, Nat.le_of_ble_eq_true rfl⟩, ⟨Nat.le_refl 0, Nat.le_refl 0⟩⟩ (Nat.le_of_ble_eq_true rfl) rfl (fun r29 X27 Y28 => ?_)
      refine j_if_ne (t := 211) (q := 163) d_Mod_share_160 (by decide) rfl ?_ ?_
      · refine j_sub (L' := [some (.ref 70), some (.int x1), some (.int x2), some (.int m3), some (.int m4), none]) ⟨rfl, ⟨rfl, ⟨rfl, ⟨rfl, ⟨rfl, trivial⟩⟩⟩⟩⟩ ?_
        exact jb_Mod_share_211 hK (fun a3 a4 A B => l_Mod_share_143 x1 x2 kx n a3 a4 A B) kx x1 x2 m3 m4 ih hkx X27 Y28
      · refine j_iload (i := 4) (x := m4) (q := 165) d_Mod_share_163 rfl rfl ?_
        refine j_callSi (S := []) (q := 168) [.int m4] d_Mod_share_165 mw_Mod_many ms_Mod_many ml_Mod_200 rfl rfl (c_Mod_many hK m4 X27 Y28) ⟨⟨rfl, rfl⟩, ⟨Nat.le_of_ble_eq_true rfl, Nat.le_of_ble_eq_true rfl⟩, ⟨Nat.le_refl 0, Nat.le_refl 0⟩⟩ (Nat.le_of_ble_eq_true rfl) rfl (fun r32 X30 Y31 => ?_)
        refine j_istore (i := 5) (L' := [some (.ref 70), some (.int x1), some (.int x2), some (.int m3), some (.int m4), some (.int r32)]) (q := 170) d_Mod_share_168 (by decide) rfl rfl rfl ?_
        refine j_iload_n (i := 3) (x := m3) (q := 171) d_Mod_share_170 rfl rfl rfl ?_
        refine j_iload (i := 5) (x := r32) (q := 173) d_Mod_share_171 rfl rfl ?_
        refine j_callSi (S := [.int m3]) (q := 176) [.int r32] d_Mod_share_173 mw_Mod_ways ms_Mod_ways ml_Mod_229 rfl rfl (c_Mod_ways hK r32 X30 Y31) ⟨⟨rfl, rfl⟩, ⟨Nat.le_of_ble_eq_true rfl, Nat.le_of_ble_eq_true rfl⟩, ⟨Nat.le_refl 0, Nat.le_refl 0⟩⟩ (Nat.le_of_ble_eq_true rfl) rfl (fun r35 X33 Y34 => ?_)
        refine j_aload_n (i := 0) (x := 70) (q := 177) d_Mod_share_176 rfl rfl rfl ?_
        refine j_get (v := .int (X33 70 4)) (q := 180) d_Mod_share_177 fk_Mod_60 fv_70_4 rfl ?_
        refine j_iconst (v := 1) (q := 181) d_Mod_share_180 (by decide) rfl ?_
        refine j_isub (q := 182) d_Mod_share_181 rfl ?_
        refine j_iload (i := 5) (x := r32) (q := 184) d_Mod_share_182 rfl rfl ?_
        refine j_isub (q := 185) d_Mod_share_184 rfl ?_
        refine j_callSi (S := [.int r35, .int m3]) (q := 188) [.int (((X33 70 4) - (1 : Int32)) - r32)] d_Mod_share_185 mw_Mod_ways ms_Mod_ways ml_Mod_229 rfl rfl (c_Mod_ways hK (((X33 70 4) - (1 : Int32)) - r32) X33 Y34) ⟨⟨rfl, rfl⟩, ⟨Nat.le_of_ble_eq_true rfl, Nat.le_of_ble_eq_true rfl⟩, ⟨Nat.le_refl 0, Nat.le_refl 0⟩⟩ (Nat.le_of_ble_eq_true rfl) rfl (fun r38 X36 Y37 => ?_)
        refine j_imul (q := 189) d_Mod_share_188 rfl ?_
        refine j_aload_n (i := 0) (x := 70) (q := 190) d_Mod_share_189 rfl rfl rfl ?_
        refine j_get (v := .ref 85) (q := 193) d_Mod_share_190 fk_Mod_53 fv_70_30 rfl ?_
        refine j_iload (i := 4) (x := m4) (q := 195) d_Mod_share_193 rfl rfl ?_
        refine j_iconst (v := 1) (q := 196) d_Mod_share_195 (by decide) rfl ?_
        refine j_iload_n (i := 1) (x := x1) (q := 197) d_Mod_share_196 rfl rfl rfl ?_
        refine j_ishl (q := 198) d_Mod_share_197 rfl ?_
        refine j_ior (q := 199) d_Mod_share_198 rfl ?_
        refine j_iald (q := 200) d_Mod_share_199 ai_85 rfl ?_
        refine j_aload_n (i := 0) (x := 70) (q := 201) d_Mod_share_200 rfl rfl rfl ?_
        refine j_get (v := .ref 85) (q := 204) d_Mod_share_201 fk_Mod_53 fv_70_30 rfl ?_
        refine j_iload (i := 4) (x := m4) (q := 206) d_Mod_share_204 rfl rfl ?_
        refine j_iald (q := 207) d_Mod_share_206 ai_85 rfl ?_
        refine j_isub (q := 208) d_Mod_share_207 rfl ?_
        refine j_imul (q := 209) d_Mod_share_208 rfl ?_
        refine j_iadd (q := 210) d_Mod_share_209 rfl ?_
        refine j_lt (fun v39 => ?_)
        refine j_istore_n (i := 3) (L' := [some (.ref 70), some (.int x1), some (.int x2), some (.int v39), some (.int m4), some (.int r32)]) (q := 211) d_Mod_share_210 rfl (by decide) rfl rfl rfl ?_
        refine j_sub (L' := [some (.ref 70), some (.int x1), some (.int x2), some (.int v39), some (.int m4), none]) ⟨rfl, ⟨rfl, ⟨rfl, ⟨rfl, ⟨rfl, trivial⟩⟩⟩⟩⟩ ?_
        exact jb_Mod_share_211 hK (fun a3 a4 A B => l_Mod_share_143 x1 x2 kx n a3 a4 A B) kx x1 x2 v39 m4 ih hkx X36 Y37
set_option maxRecDepth 4000 in
theorem c_Mod_share {K : KK} (hK : kOK K) (x1 : Int32) (x2 : Int32) (X : HI) (Y : HL) : CT K y_Mod_share prog_8_method_60_code 6 (some .int) rm_Mod_share [.ref 70, .int x1, .int x2] X Y (f_Mod_share x1 x2 X Y) := by
  refine ct_of hK (L := [some (.ref 70), some (.int x1), some (.int x2), none, none, none]) (by decide) ⟨rfl, ⟨rfl, ⟨rfl, trivial⟩⟩⟩ (Nat.le_of_ble_eq_true rfl) ?_
  unfold f_Mod_share
  refine j_aload_n (i := 0) (x := 70) (q := 1) d_Mod_share_0 rfl rfl rfl ?_
  refine j_iconst (v := 0) (q := 2) d_Mod_share_1 (by decide) rfl ?_
  refine j_putI (q := 5) d_Mod_share_2 fp_Mod_56 fw_70_0 rfl (fun X1 => ?_)
  refine j_aload_n (i := 0) (x := 70) (q := 6) d_Mod_share_5 rfl rfl rfl ?_
  refine j_iload_n (i := 1) (x := x1) (q := 7) d_Mod_share_6 rfl rfl rfl ?_
  refine j_callVi (a := 70) (S := []) (q := 10) [.int x1] d_Mod_share_7 mw_Mod_noPan mv_Mod_noPan ml_Mod_159 ob_70 rfl rfl (c_Mod_noPan hK x1 X1 Y) ⟨⟨rfl, rfl⟩, ⟨Nat.le_of_ble_eq_true rfl, Nat.le_of_ble_eq_true rfl⟩, ⟨Nat.le_refl 0, Nat.le_refl 0⟩⟩ (Nat.le_of_ble_eq_true rfl) rfl (fun r4 X2 Y3 => ?_)
  refine j_if_eq (t := 15) (q := 13) d_Mod_share_10 (by decide) rfl ?_ ?_
  · refine j_iconst (v := 0) (q := 16) d_Mod_share_15 (by decide) rfl ?_
    refine j_istore_n (i := 3) (L' := [some (.ref 70), some (.int x1), some (.int x2), some (.int (0 : Int32)), none, none]) (q := 17) d_Mod_share_16 rfl (by decide) rfl rfl rfl ?_
    refine j_sub (L' := [some (.ref 70), some (.int x1), some (.int x2), some (.int (0 : Int32)), none, none]) ⟨rfl, ⟨rfl, ⟨rfl, ⟨rfl, trivial⟩⟩⟩⟩ ?_
    refine jl_Mod_share_17 hK x1 x2 _ (fun w24 X25 Y26 => ?_) 256 (0 : Int32) X2 Y3
    refine j_iconst (v := 0) (q := 139) d_Mod_share_138 (by decide) rfl ?_
    refine j_istore_n (i := 3) (L' := [some (.ref 70), some (.int x1), some (.int x2), some (.int (0 : Int32)), none, none]) (q := 140) d_Mod_share_139 rfl (by decide) rfl rfl rfl ?_
    refine j_iconst (v := 0) (q := 141) d_Mod_share_140 (by decide) rfl ?_
    refine j_istore (i := 4) (L' := [some (.ref 70), some (.int x1), some (.int x2), some (.int (0 : Int32)), some (.int (0 : Int32)), none]) (q := 143) d_Mod_share_141 (by decide) rfl rfl rfl ?_
    refine j_sub (L' := [some (.ref 70), some (.int x1), some (.int x2), some (.int (0 : Int32)), some (.int (0 : Int32)), none]) ⟨rfl, ⟨rfl, ⟨rfl, ⟨rfl, ⟨rfl, trivial⟩⟩⟩⟩⟩ ?_
    refine jl_Mod_share_143 hK x1 x2 _ (fun w40 w41 X42 Y43 => ?_) 256 (0 : Int32) (0 : Int32) X25 Y26
    refine j_iload_n (i := 3) (x := w40) (q := 218) d_Mod_share_217 rfl rfl rfl ?_
    refine j_aload_n (i := 0) (x := 70) (q := 219) d_Mod_share_218 rfl rfl rfl ?_
    refine j_get (v := .int (X42 70 4)) (q := 222) d_Mod_share_219 fk_Mod_60 fv_70_4 rfl ?_
    refine j_callSi (S := [.int w40]) (q := 225) [.int (X42 70 4)] d_Mod_share_222 mw_Mod_ways ms_Mod_ways ml_Mod_229 rfl rfl (c_Mod_ways hK (X42 70 4) X42 Y43) ⟨⟨rfl, rfl⟩, ⟨Nat.le_of_ble_eq_true rfl, Nat.le_of_ble_eq_true rfl⟩, ⟨Nat.le_refl 0, Nat.le_refl 0⟩⟩ (Nat.le_of_ble_eq_true rfl) rfl (fun r46 X44 Y45 => ?_)
    refine j_iload_n (i := 2) (x := x2) (q := 226) d_Mod_share_225 rfl rfl rfl ?_
    refine j_callSi (S := []) (q := 229) [.int w40, .int r46, .int x2] d_Mod_share_226 mw_Mod_fraction ms_Mod_fraction ml_Mod_232 rfl rfl (c_Mod_fraction hK w40 r46 x2 X44 Y45) ⟨⟨rfl, rfl⟩, ⟨Nat.le_of_ble_eq_true rfl, Nat.le_of_ble_eq_true rfl⟩, ⟨Nat.le_refl 0, Nat.le_refl 0⟩⟩ (Nat.le_of_ble_eq_true rfl) rfl (fun r49 X47 Y48 => ?_)
    exact j_iret d_Mod_share_229
  · refine j_iconst (v := -1) (q := 14) d_Mod_share_13 (by decide) rfl ?_
    exact j_iret d_Mod_share_14
def f_Mod_find (x1 : Int32) (x2 : Int32) (x3 : Int32) (X : HI) (Y : HL) : Option Out :=
    lh (up X 70 0 (0 : Int32)) (fun X1 =>
    bi (f_Mod_in (x1.toInt64) (0 : Int64) (9 : Int64) X1 Y) (fun r4 X2 Y3 =>
    (if r4 = 0 then
    (rI (-2 : Int32) X2 Y3)
    else
    bi (f_Mod_in (x2.toInt64) (0 : Int64) (99 : Int64) X2 Y3) (fun r7 X5 Y6 =>
    (if r7 = 0 then
    (rI (-2 : Int32) X5 Y6)
    else
    bi (f_Mod_in (x3.toInt64) (0 : Int64) (1 : Int64) X5 Y6) (fun r10 X8 Y9 =>
    (if r10 = 0 then
    (rI (-2 : Int32) X8 Y9)
    else
    (if (X8 70 18) = (6 : Int32) then
    (rI (-4 : Int32) X8 Y9)
    else
    wr (ixb (X8 70 18) 6) (up X8 81 (X8 70 18).toNatClampNeg x1) (fun X11 =>
    wr (ixb (X11 70 18) 6) (up X11 82 (X11 70 18).toNatClampNeg x2) (fun X12 =>
    wr (ixb (X12 70 18) 6) (up X12 83 (X12 70 18).toNatClampNeg x3) (fun X13 =>
    lh (up X13 70 18 ((X13 70 18) + (1 : Int32))) (fun X14 =>
    (rI (X14 70 18) X14 Y9)))))))))))))
set_option maxRecDepth 4000 in
theorem c_Mod_find {K : KK} (hK : kOK K) (x1 : Int32) (x2 : Int32) (x3 : Int32) (X : HI) (Y : HL) : CT K y_Mod_find prog_8_method_61_code 4 (some .int) rm_Mod_find [.ref 70, .int x1, .int x2, .int x3] X Y (f_Mod_find x1 x2 x3 X Y) := by
  refine ct_of hK (L := [some (.ref 70), some (.int x1), some (.int x2), some (.int x3)]) (by decide) ⟨rfl, ⟨rfl, ⟨rfl, ⟨rfl, trivial⟩⟩⟩⟩ (Nat.le_of_ble_eq_true rfl) ?_
  unfold f_Mod_find
  refine j_aload_n (i := 0) (x := 70) (q := 1) d_Mod_find_0 rfl rfl rfl ?_
  refine j_iconst (v := 0) (q := 2) d_Mod_find_1 (by decide) rfl ?_
  refine j_putI (q := 5) d_Mod_find_2 fp_Mod_56 fw_70_0 rfl (fun X1 => ?_)
  refine j_iload_n (i := 1) (x := x1) (q := 6) d_Mod_find_5 rfl rfl rfl ?_
  refine j_i2l (q := 7) d_Mod_find_6 rfl ?_
  refine j_lconst (v := 0) (q := 8) d_Mod_find_7 (by decide) rfl ?_
  refine j_ldc2 (v := 9) (q := 11) d_Mod_find_8 (gw_t 747 (by decide +kernel) (by decide +kernel)) rfl ?_
  refine j_callSi (S := []) (q := 14) [.long x1.toInt64, .long (0 : Int64), .long (9 : Int64)] d_Mod_find_11 mw_Mod_in ms_Mod_in ml_Mod_63 rfl rfl (c_Mod_in hK (x1.toInt64) (0 : Int64) (9 : Int64) X1 Y) ⟨⟨rfl, rfl⟩, ⟨Nat.le_of_ble_eq_true rfl, Nat.le_of_ble_eq_true rfl⟩, ⟨Nat.le_refl 0, Nat.le_refl 0⟩⟩ (Nat.le_of_ble_eq_true rfl) rfl (fun r4 X2 Y3 => ?_)
  refine j_if_eq (t := 39) (q := 17) d_Mod_find_14 (by decide) rfl ?_ ?_
  · refine j_bipush (v := -2) (q := 41) d_Mod_find_39 (by decide +kernel) rfl ?_
    exact j_iret d_Mod_find_41
  · refine j_iload_n (i := 2) (x := x2) (q := 18) d_Mod_find_17 rfl rfl rfl ?_
    refine j_i2l (q := 19) d_Mod_find_18 rfl ?_
    refine j_lconst (v := 0) (q := 20) d_Mod_find_19 (by decide) rfl ?_
    refine j_ldc2 (v := 99) (q := 23) d_Mod_find_20 (gw_t 858 (by decide +kernel) (by decide +kernel)) rfl ?_
    refine j_callSi (S := []) (q := 26) [.long x2.toInt64, .long (0 : Int64), .long (99 : Int64)] d_Mod_find_23 mw_Mod_in ms_Mod_in ml_Mod_63 rfl rfl (c_Mod_in hK (x2.toInt64) (0 : Int64) (99 : Int64) X2 Y3) ⟨⟨rfl, rfl⟩, ⟨Nat.le_of_ble_eq_true rfl, Nat.le_of_ble_eq_true rfl⟩, ⟨Nat.le_refl 0, Nat.le_refl 0⟩⟩ (Nat.le_of_ble_eq_true rfl) rfl (fun r7 X5 Y6 => ?_)
    refine j_if_eq (t := 39) (q := 29) d_Mod_find_26 (by decide) rfl ?_ ?_
    · refine j_bipush (v := -2) (q := 41) d_Mod_find_39 (by decide +kernel) rfl ?_
      exact j_iret d_Mod_find_41
    · refine j_iload_n (i := 3) (x := x3) (q := 30) d_Mod_find_29 rfl rfl rfl ?_
      refine j_i2l (q := 31) d_Mod_find_30 rfl ?_
      refine j_lconst (v := 0) (q := 32) d_Mod_find_31 (by decide) rfl ?_
      refine j_lconst (v := 1) (q := 33) d_Mod_find_32 (by decide) rfl ?_
      refine j_callSi (S := []) (q := 36) [.long x3.toInt64, .long (0 : Int64), .long (1 : Int64)] d_Mod_find_33 mw_Mod_in ms_Mod_in ml_Mod_63 rfl rfl (c_Mod_in hK (x3.toInt64) (0 : Int64) (1 : Int64) X5 Y6) ⟨⟨rfl, rfl⟩, ⟨Nat.le_of_ble_eq_true rfl, Nat.le_of_ble_eq_true rfl⟩, ⟨Nat.le_refl 0, Nat.le_refl 0⟩⟩ (Nat.le_of_ble_eq_true rfl) rfl (fun r10 X8 Y9 => ?_)
      refine j_if_ne (t := 42) (q := 39) d_Mod_find_36 (by decide) rfl ?_ ?_
      · refine j_aload_n (i := 0) (x := 70) (q := 43) d_Mod_find_42 rfl rfl rfl ?_
        refine j_get (v := .int (X8 70 18)) (q := 46) d_Mod_find_43 fk_Mod_156 fv_70_18 rfl ?_
        refine j_bipush (v := 6) (q := 48) d_Mod_find_46 (by decide +kernel) rfl ?_
        refine j_icmp_ne (t := 54) (q := 51) d_Mod_find_48 (by decide) rfl ?_ ?_
        · refine j_aload_n (i := 0) (x := 70) (q := 55) d_Mod_find_54 rfl rfl rfl ?_
          refine j_get (v := .ref 81) (q := 58) d_Mod_find_55 fk_Mod_41 fv_70_19 rfl ?_
          refine j_aload_n (i := 0) (x := 70) (q := 59) d_Mod_find_58 rfl rfl rfl ?_
          refine j_get (v := .int (X8 70 18)) (q := 62) d_Mod_find_59 fk_Mod_156 fv_70_18 rfl ?_
          refine j_iload_n (i := 1) (x := x1) (q := 63) d_Mod_find_62 rfl rfl rfl ?_
          refine j_iast (q := 64) d_Mod_find_63 ai_81 rfl (fun X11 => ?_)
          refine j_aload_n (i := 0) (x := 70) (q := 65) d_Mod_find_64 rfl rfl rfl ?_
          refine j_get (v := .ref 82) (q := 68) d_Mod_find_65 fk_Mod_44 fv_70_20 rfl ?_
          refine j_aload_n (i := 0) (x := 70) (q := 69) d_Mod_find_68 rfl rfl rfl ?_
          refine j_get (v := .int (X11 70 18)) (q := 72) d_Mod_find_69 fk_Mod_156 fv_70_18 rfl ?_
          refine j_iload_n (i := 2) (x := x2) (q := 73) d_Mod_find_72 rfl rfl rfl ?_
          refine j_iast (q := 74) d_Mod_find_73 ai_82 rfl (fun X12 => ?_)
          refine j_aload_n (i := 0) (x := 70) (q := 75) d_Mod_find_74 rfl rfl rfl ?_
          refine j_get (v := .ref 83) (q := 78) d_Mod_find_75 fk_Mod_47 fv_70_21 rfl ?_
          refine j_aload_n (i := 0) (x := 70) (q := 79) d_Mod_find_78 rfl rfl rfl ?_
          refine j_get (v := .int (X12 70 18)) (q := 82) d_Mod_find_79 fk_Mod_156 fv_70_18 rfl ?_
          refine j_iload_n (i := 3) (x := x3) (q := 83) d_Mod_find_82 rfl rfl rfl ?_
          refine j_iast (q := 84) d_Mod_find_83 ai_83 rfl (fun X13 => ?_)
          refine j_aload_n (i := 0) (x := 70) (q := 85) d_Mod_find_84 rfl rfl rfl ?_
          refine j_dup (q := 86) d_Mod_find_85 rfl rfl ?_
          refine j_get (v := .int (X13 70 18)) (q := 89) d_Mod_find_86 fk_Mod_156 fv_70_18 rfl ?_
          refine j_iconst (v := 1) (q := 90) d_Mod_find_89 (by decide) rfl ?_
          refine j_iadd (q := 91) d_Mod_find_90 rfl ?_
          refine j_putI (q := 94) d_Mod_find_91 fp_Mod_156 fw_70_18 rfl (fun X14 => ?_)
          refine j_aload_n (i := 0) (x := 70) (q := 95) d_Mod_find_94 rfl rfl rfl ?_
          refine j_get (v := .int (X14 70 18)) (q := 98) d_Mod_find_95 fk_Mod_156 fv_70_18 rfl ?_
          exact j_iret d_Mod_find_98
        · refine j_bipush (v := -4) (q := 53) d_Mod_find_51 (by decide +kernel) rfl ?_
          exact j_iret d_Mod_find_53
      · refine j_bipush (v := -2) (q := 41) d_Mod_find_39 (by decide +kernel) rfl ?_
        exact j_iret d_Mod_find_41
def f_Mod_forget (X : HI) (Y : HL) : Option Out :=
    lh (up X 70 0 (0 : Int32)) (fun X1 =>
    lt (X1 70 18) (fun v2 =>
    lh (up X1 70 18 (0 : Int32)) (fun X3 =>
    (rI v2 X3 Y))))
set_option maxRecDepth 4000 in
theorem c_Mod_forget {K : KK} (hK : kOK K) (X : HI) (Y : HL) : CT K y_Mod_forget prog_8_method_62_code 2 (some .int) rm_Mod_forget [.ref 70] X Y (f_Mod_forget X Y) := by
  refine ct_of hK (L := [some (.ref 70), none]) (by decide) ⟨rfl, trivial⟩ (Nat.le_of_ble_eq_true rfl) ?_
  unfold f_Mod_forget
  refine j_aload_n (i := 0) (x := 70) (q := 1) d_Mod_forget_0 rfl rfl rfl ?_
  refine j_iconst (v := 0) (q := 2) d_Mod_forget_1 (by decide) rfl ?_
  refine j_putI (q := 5) d_Mod_forget_2 fp_Mod_56 fw_70_0 rfl (fun X1 => ?_)
  refine j_aload_n (i := 0) (x := 70) (q := 6) d_Mod_forget_5 rfl rfl rfl ?_
  refine j_get (v := .int (X1 70 18)) (q := 9) d_Mod_forget_6 fk_Mod_156 fv_70_18 rfl ?_
  refine j_lt (fun v2 => ?_)
  refine j_istore_n (i := 1) (L' := [some (.ref 70), some (.int v2)]) (q := 10) d_Mod_forget_9 rfl (by decide) rfl rfl rfl ?_
  refine j_aload_n (i := 0) (x := 70) (q := 11) d_Mod_forget_10 rfl rfl rfl ?_
  refine j_iconst (v := 0) (q := 12) d_Mod_forget_11 (by decide) rfl ?_
  refine j_putI (q := 15) d_Mod_forget_12 fp_Mod_156 fw_70_18 rfl (fun X3 => ?_)
  refine j_iload_n (i := 1) (x := v2) (q := 16) d_Mod_forget_15 rfl rfl rfl ?_
  exact j_iret d_Mod_forget_16
def b_Mod_salts_128 (kc : Int32 → Int32 → HI → HL → Option Out) (kx : Int32 → Int32 → HI → HL → Option Out) (x1 : Int32) (x2 : Int32) (x4 : Int32) (s0 : Int32) (X : HI) (Y : HL) : Option Out :=
    (kc s0 (x4 + (1 : Int32)) X Y)
def b_Mod_salts_127 (kc : Int32 → Int32 → HI → HL → Option Out) (kx : Int32 → Int32 → HI → HL → Option Out) (x1 : Int32) (x2 : Int32) (x4 : Int32) (X : HI) (Y : HL) : Option Out :=
    (b_Mod_salts_128 kc kx x1 x2 x4 (0 : Int32) X Y)
def b_Mod_salts_120 (kc : Int32 → Int32 → HI → HL → Option Out) (kx : Int32 → Int32 → HI → HL → Option Out) (x1 : Int32) (x2 : Int32) (x4 : Int32) (s0 : Int32) (s1 : Int32) (X : HI) (Y : HL) : Option Out :=
    (if s1 = s0 then
    (b_Mod_salts_128 kc kx x1 x2 x4 (1 : Int32) X Y)
    else
    (b_Mod_salts_127 kc kx x1 x2 x4 X Y))
def b_Mod_salts_104 (kc : Int32 → Int32 → HI → HL → Option Out) (kx : Int32 → Int32 → HI → HL → Option Out) (x1 : Int32) (x2 : Int32) (x4 : Int32) (s0 : Int32) (X : HI) (Y : HL) : Option Out :=
    gd (ixb x4 6) (
    (if (X 83 x4.toNatClampNeg) = (1 : Int32) then
    (b_Mod_salts_120 kc kx x1 x2 x4 (1 : Int32) s0 X Y)
    else
    (b_Mod_salts_120 kc kx x1 x2 x4 (0 : Int32) s0 X Y)))
def b_Mod_salts_81 (kc : Int32 → Int32 → HI → HL → Option Out) (kx : Int32 → Int32 → HI → HL → Option Out) (x1 : Int32) (x2 : Int32) (x3 : Int32) (x4 : Int32) (s0 : Int32) (X : HI) (Y : HL) : Option Out :=
    (if x3 = 0 then
    (b_Mod_salts_127 kc kx x1 x2 x4 X Y)
    else
    gd (ixb x4 6) (
    (if s0 < (X 82 x4.toNatClampNeg) then
    (b_Mod_salts_104 kc kx x1 x2 x4 (0 : Int32) X Y)
    else
    (b_Mod_salts_104 kc kx x1 x2 x4 (1 : Int32) X Y))))
def l_Mod_salts_42 (x1 : Int32) (x2 : Int32) (kx : Int32 → Int32 → HI → HL → Option Out) : Nat → Int32 → Int32 → HI → HL → Option Out
  | 0, _, _, _, _ => none
  | n + 1, m3, m4, X, Y =>
    (if (X 70 18) ≤ m4 then
    (kx m3 m4 X Y)
    else
    gd (ixb m4 6) (
    (if x2 ≤ ((8 : Int32) * (X 81 m4.toNatClampNeg)) then
    (b_Mod_salts_81 (fun a3 a4 A B => l_Mod_salts_42 x1 x2 kx n a3 a4 A B) kx x1 x2 m3 m4 (0 : Int32) X Y)
    else
    gd (ixb m4 6) (
    (b_Mod_salts_81 (fun a3 a4 A B => l_Mod_salts_42 x1 x2 kx n a3 a4 A B) kx x1 x2 m3 m4 (x2 - ((8 : Int32) * (X 81 m4.toNatClampNeg))) X Y)))))
def b_Mod_salts_172 (kc : Int32 → HI → HL → Option Out) (kx : Int32 → HI → HL → Option Out) (x1 : Int32) (x2 : Int32) (s0 : Int32) (s1 : Int32) (X : HI) (Y : HL) : Option Out :=
    lh (up X 70 25 (s1 + s0)) (fun X12 =>
    (kc (x2 + (1 : Int32)) X12 Y))
def b_Mod_salts_155 (kc : Int32 → HI → HL → Option Out) (kx : Int32 → HI → HL → Option Out) (x1 : Int32) (x2 : Int32) (x3 : Int32) (s0 : Int32) (X : HI) (Y : HL) : Option Out :=
    lh (up X 70 26 s0) (fun X11 =>
    (if x3 = 0 then
    (b_Mod_salts_172 kc kx x1 x2 (0 : Int32) (X11 70 25) X11 Y)
    else
    (b_Mod_salts_172 kc kx x1 x2 (1 : Int32) (X11 70 25) X11 Y)))
def b_Mod_salts_151 (kc : Int32 → HI → HL → Option Out) (kx : Int32 → HI → HL → Option Out) (x1 : Int32) (x2 : Int32) (x3 : Int32) (X : HI) (Y : HL) : Option Out :=
    (b_Mod_salts_155 kc kx x1 x2 x3 (X 70 26) X Y)
def l_Mod_salts_31 (x1 : Int32) (kx : Int32 → HI → HL → Option Out) : Nat → Int32 → HI → HL → Option Out
  | 0, _, _, _ => none
  | n + 1, m2, X, Y =>
    (if (100 : Int32) ≤ m2 then
    (kx m2 X Y)
    else
    (l_Mod_salts_42 x1 m2 (fun w7 w8 X9 Y10 =>
    (if w7 = 0 then
    (b_Mod_salts_151 (fun a2 A B => l_Mod_salts_31 x1 kx n a2 A B) kx x1 m2 w7 X9 Y10)
    else
    (if (X9 70 25) = 0 then
    (b_Mod_salts_155 (fun a2 A B => l_Mod_salts_31 x1 kx n a2 A B) kx x1 m2 w7 m2 X9 Y10)
    else
    (b_Mod_salts_151 (fun a2 A B => l_Mod_salts_31 x1 kx n a2 A B) kx x1 m2 w7 X9 Y10)))) 256 (1 : Int32) (0 : Int32) X Y))
def f_Mod_salts (x1 : Int32) (X : HI) (Y : HL) : Option Out :=
    lh (up X 70 0 (0 : Int32)) (fun X1 =>
    bi (f_Mod_in (x1.toInt64) (0 : Int64) (1 : Int64) X1 Y) (fun r4 X2 Y3 =>
    (if r4 = 0 then
    (rI (-2 : Int32) X2 Y3)
    else
    lh (up X2 70 25 (0 : Int32)) (fun X5 =>
    lh (up X5 70 26 (-9 : Int32)) (fun X6 =>
    (l_Mod_salts_31 x1 (fun w13 X14 Y15 =>
    (if x1 = 0 then
    (rI (X14 70 25) X14 Y15)
    else
    (rI (X14 70 26) X14 Y15))) 256 (0 : Int32) X6 Y3))))))
set_option maxRecDepth 4000 in
theorem jb_Mod_salts_128 {K : KK} (hK : kOK K) (kc : Int32 → Int32 → HI → HL → Option Out) (kx : Int32 → Int32 → HI → HL → Option Out) (x1 : Int32) (x2 : Int32) (x4 : Int32) (s0 : Int32) (hkc : ∀ (m3 : Int32) (m4 : Int32) (X : HI) (Y : HL), JO K "BrinePansModel" prog_8_method_63_code 6 (some .int) rm_Mod_salts 0 0 (MZ K) 42 [some (.ref 70), some (.int x1), some (.int x2), some (.int m3), some (.int m4), none] [] X Y (kc m3 m4 X Y)) (hkx : ∀ (m3 : Int32) (m4 : Int32) (X : HI) (Y : HL), JO K "BrinePansModel" prog_8_method_63_code 6 (some .int) rm_Mod_salts 0 0 (MZ K) 135 [some (.ref 70), some (.int x1), some (.int x2), some (.int m3), none, none] [] X Y (kx m3 m4 X Y)) (X : HI) (Y : HL) : JO K "BrinePansModel" prog_8_method_63_code 6 (some .int) rm_Mod_salts 0 0 (MZ K) 128 [some (.ref 70), some (.int x1), some (.int x2), none, some (.int x4), none] [.int s0] X Y (b_Mod_salts_128 kc kx x1 x2 x4 s0 X Y) := by
  unfold b_Mod_salts_128
  refine j_istore_n (i := 3) (L' := [some (.ref 70), some (.int x1), some (.int x2), some (.int s0), some (.int x4), none]) (q := 129) d_Mod_salts_128 rfl (by decide) rfl rfl rfl ?_
  refine j_iinc (i := 4) (x := x4) (d := 1) (L' := [some (.ref 70), some (.int x1), some (.int x2), some (.int s0), some (.int (x4 + (1 : Int32))), none]) (q := 132) d_Mod_salts_129 rfl (by decide) (by decide) rfl rfl rfl ?_
  refine j_goto (q := 42) d_Mod_salts_132 (by decide) ?_
  refine j_sub (L' := [some (.ref 70), some (.int x1), some (.int x2), some (.int s0), some (.int (x4 + (1 : Int32))), none]) ⟨rfl, ⟨rfl, ⟨rfl, ⟨rfl, ⟨rfl, trivial⟩⟩⟩⟩⟩ ?_
  exact hkc s0 (x4 + (1 : Int32)) X Y
set_option maxRecDepth 4000 in
theorem jb_Mod_salts_127 {K : KK} (hK : kOK K) (kc : Int32 → Int32 → HI → HL → Option Out) (kx : Int32 → Int32 → HI → HL → Option Out) (x1 : Int32) (x2 : Int32) (x4 : Int32) (hkc : ∀ (m3 : Int32) (m4 : Int32) (X : HI) (Y : HL), JO K "BrinePansModel" prog_8_method_63_code 6 (some .int) rm_Mod_salts 0 0 (MZ K) 42 [some (.ref 70), some (.int x1), some (.int x2), some (.int m3), some (.int m4), none] [] X Y (kc m3 m4 X Y)) (hkx : ∀ (m3 : Int32) (m4 : Int32) (X : HI) (Y : HL), JO K "BrinePansModel" prog_8_method_63_code 6 (some .int) rm_Mod_salts 0 0 (MZ K) 135 [some (.ref 70), some (.int x1), some (.int x2), some (.int m3), none, none] [] X Y (kx m3 m4 X Y)) (X : HI) (Y : HL) : JO K "BrinePansModel" prog_8_method_63_code 6 (some .int) rm_Mod_salts 0 0 (MZ K) 127 [some (.ref 70), some (.int x1), some (.int x2), none, some (.int x4), none] [] X Y (b_Mod_salts_127 kc kx x1 x2 x4 X Y) := by
  unfold b_Mod_salts_127
  refine j_iconst (v := 0) (q := 128) d_Mod_salts_127 (by decide) rfl ?_
  refine j_sub (L' := [some (.ref 70), some (.int x1), some (.int x2), none, some (.int x4), none]) ⟨rfl, ⟨rfl, ⟨rfl, ⟨rfl, trivial⟩⟩⟩⟩ ?_
  exact jb_Mod_salts_128 hK kc kx x1 x2 x4 (0 : Int32) hkc hkx X Y
set_option maxRecDepth 4000 in
theorem jb_Mod_salts_120 {K : KK} (hK : kOK K) (kc : Int32 → Int32 → HI → HL → Option Out) (kx : Int32 → Int32 → HI → HL → Option Out) (x1 : Int32) (x2 : Int32) (x4 : Int32) (s0 : Int32) (s1 : Int32) (hkc : ∀ (m3 : Int32) (m4 : Int32) (X : HI) (Y : HL), JO K "BrinePansModel" prog_8_method_63_code 6 (some .int) rm_Mod_salts 0 0 (MZ K) 42 [some (.ref 70), some (.int x1), some (.int x2), some (.int m3), some (.int m4), none] [] X Y (kc m3 m4 X Y)) (hkx : ∀ (m3 : Int32) (m4 : Int32) (X : HI) (Y : HL), JO K "BrinePansModel" prog_8_method_63_code 6 (some .int) rm_Mod_salts 0 0 (MZ K) 135 [some (.ref 70), some (.int x1), some (.int x2), some (.int m3), none, none] [] X Y (kx m3 m4 X Y)) (X : HI) (Y : HL) : JO K "BrinePansModel" prog_8_method_63_code 6 (some .int) rm_Mod_salts 0 0 (MZ K) 120 [some (.ref 70), some (.int x1), some (.int x2), none, some (.int x4), none] [.int s0, .int s1] X Y (b_Mod_salts_120 kc kx x1 x2 x4 s0 s1 X Y) := by
  unfold b_Mod_salts_120
  refine j_icmp_ne (t := 127) (q := 123) d_Mod_salts_120 (by decide) rfl ?_ ?_
  · refine j_sub (L' := [some (.ref 70), some (.int x1), some (.int x2), none, some (.int x4), none]) ⟨rfl, ⟨rfl, ⟨rfl, ⟨rfl, trivial⟩⟩⟩⟩ ?_
    exact jb_Mod_salts_127 hK kc kx x1 x2 x4 hkc hkx X Y
  · refine j_iconst (v := 1) (q := 124) d_Mod_salts_123 (by decide) rfl ?_
    refine j_goto (q := 128) d_Mod_salts_124 (by decide) ?_
    refine j_sub (L' := [some (.ref 70), some (.int x1), some (.int x2), none, some (.int x4), none]) ⟨rfl, ⟨rfl, ⟨rfl, ⟨rfl, trivial⟩⟩⟩⟩ ?_
    exact jb_Mod_salts_128 hK kc kx x1 x2 x4 (1 : Int32) hkc hkx X Y
set_option maxRecDepth 4000 in
theorem jb_Mod_salts_104 {K : KK} (hK : kOK K) (kc : Int32 → Int32 → HI → HL → Option Out) (kx : Int32 → Int32 → HI → HL → Option Out) (x1 : Int32) (x2 : Int32) (x4 : Int32) (s0 : Int32) (hkc : ∀ (m3 : Int32) (m4 : Int32) (X : HI) (Y : HL), JO K "BrinePansModel" prog_8_method_63_code 6 (some .int) rm_Mod_salts 0 0 (MZ K) 42 [some (.ref 70), some (.int x1), some (.int x2), some (.int m3), some (.int m4), none] [] X Y (kc m3 m4 X Y)) (hkx : ∀ (m3 : Int32) (m4 : Int32) (X : HI) (Y : HL), JO K "BrinePansModel" prog_8_method_63_code 6 (some .int) rm_Mod_salts 0 0 (MZ K) 135 [some (.ref 70), some (.int x1), some (.int x2), some (.int m3), none, none] [] X Y (kx m3 m4 X Y)) (X : HI) (Y : HL) : JO K "BrinePansModel" prog_8_method_63_code 6 (some .int) rm_Mod_salts 0 0 (MZ K) 104 [some (.ref 70), some (.int x1), some (.int x2), none, some (.int x4), none] [.int s0] X Y (b_Mod_salts_104 kc kx x1 x2 x4 s0 X Y) := by
  unfold b_Mod_salts_104
  refine j_aload_n (i := 0) (x := 70) (q := 105) d_Mod_salts_104 rfl rfl rfl ?_
  refine j_get (v := .ref 83) (q := 108) d_Mod_salts_105 fk_Mod_47 fv_70_21 rfl ?_
  refine j_iload (i := 4) (x := x4) (q := 110) d_Mod_salts_108 rfl rfl ?_
  refine j_iald (q := 111) d_Mod_salts_110 ai_83 rfl ?_
  refine j_iconst (v := 1) (q := 112) d_Mod_salts_111 (by decide) rfl ?_
  refine j_icmp_ne (t := 119) (q := 115) d_Mod_salts_112 (by decide) rfl ?_ ?_
  · refine j_iconst (v := 0) (q := 120) d_Mod_salts_119 (by decide) rfl ?_
    refine j_sub (L' := [some (.ref 70), some (.int x1), some (.int x2), none, some (.int x4), none]) ⟨rfl, ⟨rfl, ⟨rfl, ⟨rfl, trivial⟩⟩⟩⟩ ?_
    exact jb_Mod_salts_120 hK kc kx x1 x2 x4 (0 : Int32) s0 hkc hkx X Y
  · refine j_iconst (v := 1) (q := 116) d_Mod_salts_115 (by decide) rfl ?_
    refine j_goto (q := 120) d_Mod_salts_116 (by decide) ?_
    refine j_sub (L' := [some (.ref 70), some (.int x1), some (.int x2), none, some (.int x4), none]) ⟨rfl, ⟨rfl, ⟨rfl, ⟨rfl, trivial⟩⟩⟩⟩ ?_
    exact jb_Mod_salts_120 hK kc kx x1 x2 x4 (1 : Int32) s0 hkc hkx X Y
set_option maxRecDepth 4000 in
theorem jb_Mod_salts_81 {K : KK} (hK : kOK K) (kc : Int32 → Int32 → HI → HL → Option Out) (kx : Int32 → Int32 → HI → HL → Option Out) (x1 : Int32) (x2 : Int32) (x3 : Int32) (x4 : Int32) (s0 : Int32) (hkc : ∀ (m3 : Int32) (m4 : Int32) (X : HI) (Y : HL), JO K "BrinePansModel" prog_8_method_63_code 6 (some .int) rm_Mod_salts 0 0 (MZ K) 42 [some (.ref 70), some (.int x1), some (.int x2), some (.int m3), some (.int m4), none] [] X Y (kc m3 m4 X Y)) (hkx : ∀ (m3 : Int32) (m4 : Int32) (X : HI) (Y : HL), JO K "BrinePansModel" prog_8_method_63_code 6 (some .int) rm_Mod_salts 0 0 (MZ K) 135 [some (.ref 70), some (.int x1), some (.int x2), some (.int m3), none, none] [] X Y (kx m3 m4 X Y)) (X : HI) (Y : HL) : JO K "BrinePansModel" prog_8_method_63_code 6 (some .int) rm_Mod_salts 0 0 (MZ K) 81 [some (.ref 70), some (.int x1), some (.int x2), some (.int x3), some (.int x4), none] [.int s0] X Y (b_Mod_salts_81 kc kx x1 x2 x3 x4 s0 X Y) := by
  unfold b_Mod_salts_81
  refine j_istore (i := 5) (L' := [some (.ref 70), some (.int x1), some (.int x2), some (.int x3), some (.int x4), some (.int s0)]) (q := 83) d_Mod_salts_81 (by decide) rfl rfl rfl ?_
  refine j_iload_n (i := 3) (x := x3) (q := 84) d_Mod_salts_83 rfl rfl rfl ?_
  refine j_if_eq (t := 127) (q := 87) d_Mod_salts_84 (by decide) rfl ?_ ?_
  · refine j_sub (L' := [some (.ref 70), some (.int x1), some (.int x2), none, some (.int x4), none]) ⟨rfl, ⟨rfl, ⟨rfl, ⟨rfl, trivial⟩⟩⟩⟩ ?_
    exact jb_Mod_salts_127 hK kc kx x1 x2 x4 hkc hkx X Y
  · refine j_iload (i := 5) (x := s0) (q := 89) d_Mod_salts_87 rfl rfl ?_
    refine j_aload_n (i := 0) (x := 70) (q := 90) d_Mod_salts_89 rfl rfl rfl ?_
    refine j_get (v := .ref 82) (q := 93) d_Mod_salts_90 fk_Mod_44 fv_70_20 rfl ?_
    refine j_iload (i := 4) (x := x4) (q := 95) d_Mod_salts_93 rfl rfl ?_
    refine j_iald (q := 96) d_Mod_salts_95 ai_82 rfl ?_
    refine j_icmp_lt (t := 103) (q := 99) d_Mod_salts_96 (by decide) rfl ?_ ?_
    · refine j_iconst (v := 0) (q := 104) d_Mod_salts_103 (by decide) rfl ?_
      refine j_sub (L' := [some (.ref 70), some (.int x1), some (.int x2), none, some (.int x4), none]) ⟨rfl, ⟨rfl, ⟨rfl, ⟨rfl, trivial⟩⟩⟩⟩ ?_
      exact jb_Mod_salts_104 hK kc kx x1 x2 x4 (0 : Int32) hkc hkx X Y
    · refine j_iconst (v := 1) (q := 100) d_Mod_salts_99 (by decide) rfl ?_
      refine j_goto (q := 104) d_Mod_salts_100 (by decide) ?_
      refine j_sub (L' := [some (.ref 70), some (.int x1), some (.int x2), none, some (.int x4), none]) ⟨rfl, ⟨rfl, ⟨rfl, ⟨rfl, trivial⟩⟩⟩⟩ ?_
      exact jb_Mod_salts_104 hK kc kx x1 x2 x4 (1 : Int32) hkc hkx X Y
set_option maxRecDepth 4000 in
theorem jl_Mod_salts_42 {K : KK} (hK : kOK K) (x1 : Int32) (x2 : Int32) (kx : Int32 → Int32 → HI → HL → Option Out) (hkx : ∀ (m3 : Int32) (m4 : Int32) (X : HI) (Y : HL), JO K "BrinePansModel" prog_8_method_63_code 6 (some .int) rm_Mod_salts 0 0 (MZ K) 135 [some (.ref 70), some (.int x1), some (.int x2), some (.int m3), none, none] [] X Y (kx m3 m4 X Y)) : ∀ (n : Nat) (m3 : Int32) (m4 : Int32) (X : HI) (Y : HL), JO K "BrinePansModel" prog_8_method_63_code 6 (some .int) rm_Mod_salts 0 0 (MZ K) 42 [some (.ref 70), some (.int x1), some (.int x2), some (.int m3), some (.int m4), none] [] X Y (l_Mod_salts_42 x1 x2 kx n m3 m4 X Y) := by
  intro n
  induction n with
  | zero =>
    intro m3 m4 X Y
    rw [l_Mod_salts_42]
    exact j_none
  | succ n ih =>
    intro m3 m4 X Y
    rw [l_Mod_salts_42]
    refine j_iload (i := 4) (x := m4) (q := 44) d_Mod_salts_42 rfl rfl ?_
    refine j_aload_n (i := 0) (x := 70) (q := 45) d_Mod_salts_44 rfl rfl rfl ?_
    refine j_get (v := .int (X 70 18)) (q := 48) d_Mod_salts_45 fk_Mod_156 fv_70_18 rfl ?_
    refine j_icmp_ge (t := 135) (q := 51) d_Mod_salts_48 (by decide) rfl ?_ ?_
    · refine j_sub (L' := [some (.ref 70), some (.int x1), some (.int x2), some (.int m3), none, none]) ⟨rfl, ⟨rfl, ⟨rfl, ⟨rfl, trivial⟩⟩⟩⟩ ?_
      exact hkx m3 m4 X Y
    · refine j_iload_n (i := 2) (x := x2) (q := 52) d_Mod_salts_51 rfl rfl rfl ?_
      refine j_bipush (v := 8) (q := 54) d_Mod_salts_52 (by decide +kernel) rfl ?_
      refine j_aload_n (i := 0) (x := 70) (q := 55) d_Mod_salts_54 rfl rfl rfl ?_
      refine j_get (v := .ref 81) (q := 58) d_Mod_salts_55 fk_Mod_41 fv_70_19 rfl ?_
      refine j_iload (i := 4) (x := m4) (q := 60) d_Mod_salts_58 rfl rfl ?_
      refine j_iald (q := 61) d_Mod_salts_60 ai_81 rfl ?_
      refine j_imul (q := 62) d_Mod_salts_61 rfl ?_
      refine j_icmp_le (t := 80) (q := 65) d_Mod_salts_62 (by decide) rfl ?_ ?_
      · refine j_iconst (v := 0) (q := 81) d_Mod_salts_80 (by decide) rfl ?_
        refine j_sub (L' := [some (.ref 70), some (.int x1), some (.int x2), some (.int m3), some (.int m4), none]) ⟨rfl, ⟨rfl, ⟨rfl, ⟨rfl, ⟨rfl, trivial⟩⟩⟩⟩⟩ ?_
        exact jb_Mod_salts_81 hK (fun a3 a4 A B => l_Mod_salts_42 x1 x2 kx n a3 a4 A B) kx x1 x2 m3 m4 (0 : Int32) ih hkx X Y
      · refine j_iload_n (i := 2) (x := x2) (q := 66) d_Mod_salts_65 rfl rfl rfl ?_
        refine j_bipush (v := 8) (q := 68) d_Mod_salts_66 (by decide +kernel) rfl ?_
        refine j_aload_n (i := 0) (x := 70) (q := 69) d_Mod_salts_68 rfl rfl rfl ?_
        refine j_get (v := .ref 81) (q := 72) d_Mod_salts_69 fk_Mod_41 fv_70_19 rfl ?_
        refine j_iload (i := 4) (x := m4) (q := 74) d_Mod_salts_72 rfl rfl ?_
        refine j_iald (q := 75) d_Mod_salts_74 ai_81 rfl ?_
        refine j_imul (q := 76) d_Mod_salts_75 rfl ?_
        refine j_isub (q := 77) d_Mod_salts_76 rfl ?_
        refine j_goto (q := 81) d_Mod_salts_77 (by decide) ?_
        refine j_sub (L' := [some (.ref 70), some (.int x1), some (.int x2), some (.int m3), some (.int m4), none]) ⟨rfl, ⟨rfl, ⟨rfl, ⟨rfl, ⟨rfl, trivial⟩⟩⟩⟩⟩ ?_
        exact jb_Mod_salts_81 hK (fun a3 a4 A B => l_Mod_salts_42 x1 x2 kx n a3 a4 A B) kx x1 x2 m3 m4 (x2 - ((8 : Int32) * (X 81 m4.toNatClampNeg))) ih hkx X Y
set_option maxRecDepth 4000 in
theorem jb_Mod_salts_172 {K : KK} (hK : kOK K) (kc : Int32 → HI → HL → Option Out) (kx : Int32 → HI → HL → Option Out) (x1 : Int32) (x2 : Int32) (s0 : Int32) (s1 : Int32) (hkc : ∀ (m2 : Int32) (X : HI) (Y : HL), JO K "BrinePansModel" prog_8_method_63_code 6 (some .int) rm_Mod_salts 0 0 (MZ K) 31 [some (.ref 70), some (.int x1), some (.int m2), none, none, none] [] X Y (kc m2 X Y)) (hkx : ∀ (m2 : Int32) (X : HI) (Y : HL), JO K "BrinePansModel" prog_8_method_63_code 6 (some .int) rm_Mod_salts 0 0 (MZ K) 182 [some (.ref 70), some (.int x1), none, none, none, none] [] X Y (kx m2 X Y)) (X : HI) (Y : HL) : JO K "BrinePansModel" prog_8_method_63_code 6 (some .int) rm_Mod_salts 0 0 (MZ K) 172 [some (.ref 70), some (.int x1), some (.int x2), none, none, none] [.int s0, .int s1, .ref 70] X Y (b_Mod_salts_172 kc kx x1 x2 s0 s1 X Y) := by
  unfold b_Mod_salts_172
  refine j_iadd (q := 173) d_Mod_salts_172 rfl ?_
  refine j_putI (q := 176) d_Mod_salts_173 fp_Mod_238 fw_70_25 rfl (fun X12 => ?_)
  refine j_iinc (i := 2) (x := x2) (d := 1) (L' := [some (.ref 70), some (.int x1), some (.int (x2 + (1 : Int32))), none, none, none]) (q := 179) d_Mod_salts_176 rfl (by decide) (by decide) rfl rfl rfl ?_
  refine j_goto (q := 31) d_Mod_salts_179 (by decide) ?_
  refine j_sub (L' := [some (.ref 70), some (.int x1), some (.int (x2 + (1 : Int32))), none, none, none]) ⟨rfl, ⟨rfl, ⟨rfl, trivial⟩⟩⟩ ?_
  exact hkc (x2 + (1 : Int32)) X12 Y
set_option maxRecDepth 4000 in
theorem jb_Mod_salts_155 {K : KK} (hK : kOK K) (kc : Int32 → HI → HL → Option Out) (kx : Int32 → HI → HL → Option Out) (x1 : Int32) (x2 : Int32) (x3 : Int32) (s0 : Int32) (hkc : ∀ (m2 : Int32) (X : HI) (Y : HL), JO K "BrinePansModel" prog_8_method_63_code 6 (some .int) rm_Mod_salts 0 0 (MZ K) 31 [some (.ref 70), some (.int x1), some (.int m2), none, none, none] [] X Y (kc m2 X Y)) (hkx : ∀ (m2 : Int32) (X : HI) (Y : HL), JO K "BrinePansModel" prog_8_method_63_code 6 (some .int) rm_Mod_salts 0 0 (MZ K) 182 [some (.ref 70), some (.int x1), none, none, none, none] [] X Y (kx m2 X Y)) (X : HI) (Y : HL) : JO K "BrinePansModel" prog_8_method_63_code 6 (some .int) rm_Mod_salts 0 0 (MZ K) 155 [some (.ref 70), some (.int x1), some (.int x2), some (.int x3), none, none] [.int s0, .ref 70] X Y (b_Mod_salts_155 kc kx x1 x2 x3 s0 X Y) := by
  unfold b_Mod_salts_155
  refine j_putI (q := 158) d_Mod_salts_155 fp_Mod_241 fw_70_26 rfl (fun X11 => ?_)
  refine j_aload_n (i := 0) (x := 70) (q := 159) d_Mod_salts_158 rfl rfl rfl ?_
  refine j_dup (q := 160) d_Mod_salts_159 rfl rfl ?_
  refine j_get (v := .int (X11 70 25)) (q := 163) d_Mod_salts_160 fk_Mod_238 fv_70_25 rfl ?_
  refine j_iload_n (i := 3) (x := x3) (q := 164) d_Mod_salts_163 rfl rfl rfl ?_
  refine j_if_eq (t := 171) (q := 167) d_Mod_salts_164 (by decide) rfl ?_ ?_
  · refine j_iconst (v := 0) (q := 172) d_Mod_salts_171 (by decide) rfl ?_
    refine j_sub (L' := [some (.ref 70), some (.int x1), some (.int x2), none, none, none]) ⟨rfl, ⟨rfl, ⟨rfl, trivial⟩⟩⟩ ?_
    exact jb_Mod_salts_172 hK kc kx x1 x2 (0 : Int32) (X11 70 25) hkc hkx X11 Y
  · refine j_iconst (v := 1) (q := 168) d_Mod_salts_167 (by decide) rfl ?_
    refine j_goto (q := 172) d_Mod_salts_168 (by decide) ?_
    refine j_sub (L' := [some (.ref 70), some (.int x1), some (.int x2), none, none, none]) ⟨rfl, ⟨rfl, ⟨rfl, trivial⟩⟩⟩ ?_
    exact jb_Mod_salts_172 hK kc kx x1 x2 (1 : Int32) (X11 70 25) hkc hkx X11 Y
set_option maxRecDepth 4000 in
theorem jb_Mod_salts_151 {K : KK} (hK : kOK K) (kc : Int32 → HI → HL → Option Out) (kx : Int32 → HI → HL → Option Out) (x1 : Int32) (x2 : Int32) (x3 : Int32) (hkc : ∀ (m2 : Int32) (X : HI) (Y : HL), JO K "BrinePansModel" prog_8_method_63_code 6 (some .int) rm_Mod_salts 0 0 (MZ K) 31 [some (.ref 70), some (.int x1), some (.int m2), none, none, none] [] X Y (kc m2 X Y)) (hkx : ∀ (m2 : Int32) (X : HI) (Y : HL), JO K "BrinePansModel" prog_8_method_63_code 6 (some .int) rm_Mod_salts 0 0 (MZ K) 182 [some (.ref 70), some (.int x1), none, none, none, none] [] X Y (kx m2 X Y)) (X : HI) (Y : HL) : JO K "BrinePansModel" prog_8_method_63_code 6 (some .int) rm_Mod_salts 0 0 (MZ K) 151 [some (.ref 70), some (.int x1), some (.int x2), some (.int x3), none, none] [.ref 70] X Y (b_Mod_salts_151 kc kx x1 x2 x3 X Y) := by
  unfold b_Mod_salts_151
  refine j_aload_n (i := 0) (x := 70) (q := 152) d_Mod_salts_151 rfl rfl rfl ?_
  refine j_get (v := .int (X 70 26)) (q := 155) d_Mod_salts_152 fk_Mod_241 fv_70_26 rfl ?_
  refine j_sub (L' := [some (.ref 70), some (.int x1), some (.int x2), some (.int x3), none, none]) ⟨rfl, ⟨rfl, ⟨rfl, ⟨rfl, trivial⟩⟩⟩⟩ ?_
  exact jb_Mod_salts_155 hK kc kx x1 x2 x3 (X 70 26) hkc hkx X Y
set_option maxRecDepth 4000 in
theorem jl_Mod_salts_31 {K : KK} (hK : kOK K) (x1 : Int32) (kx : Int32 → HI → HL → Option Out) (hkx : ∀ (m2 : Int32) (X : HI) (Y : HL), JO K "BrinePansModel" prog_8_method_63_code 6 (some .int) rm_Mod_salts 0 0 (MZ K) 182 [some (.ref 70), some (.int x1), none, none, none, none] [] X Y (kx m2 X Y)) : ∀ (n : Nat) (m2 : Int32) (X : HI) (Y : HL), JO K "BrinePansModel" prog_8_method_63_code 6 (some .int) rm_Mod_salts 0 0 (MZ K) 31 [some (.ref 70), some (.int x1), some (.int m2), none, none, none] [] X Y (l_Mod_salts_31 x1 kx n m2 X Y) := by
  intro n
  induction n with
  | zero =>
    intro m2 X Y
    rw [l_Mod_salts_31]
    exact j_none
  | succ n ih =>
    intro m2 X Y
    rw [l_Mod_salts_31]
    refine j_iload_n (i := 2) (x := m2) (q := 32) d_Mod_salts_31 rfl rfl rfl ?_
    refine j_bipush (v := 100) (q := 34) d_Mod_salts_32 (by decide +kernel) rfl ?_
    refine j_icmp_ge (t := 182) (q := 37) d_Mod_salts_34 (by decide) rfl ?_ ?_
    · refine j_sub (L' := [some (.ref 70), some (.int x1), none, none, none, none]) ⟨rfl, ⟨rfl, trivial⟩⟩ ?_
      exact hkx m2 X Y
    · refine j_iconst (v := 1) (q := 38) d_Mod_salts_37 (by decide) rfl ?_
      refine j_istore_n (i := 3) (L' := [some (.ref 70), some (.int x1), some (.int m2), some (.int (1 : Int32)), none, none]) (q := 39) d_Mod_salts_38 rfl (by decide) rfl rfl rfl ?_
      refine j_iconst (v := 0) (q := 40) d_Mod_salts_39 (by decide) rfl ?_
      refine j_istore (i := 4) (L' := [some (.ref 70), some (.int x1), some (.int m2), some (.int (1 : Int32)), some (.int (0 : Int32)), none]) (q := 42) d_Mod_salts_40 (by decide) rfl rfl rfl ?_
      refine j_sub (L' := [some (.ref 70), some (.int x1), some (.int m2), some (.int (1 : Int32)), some (.int (0 : Int32)), none]) ⟨rfl, ⟨rfl, ⟨rfl, ⟨rfl, ⟨rfl, trivial⟩⟩⟩⟩⟩ ?_
      refine jl_Mod_salts_42 hK x1 m2 _ (fun w7 w8 X9 Y10 => ?_) 256 (1 : Int32) (0 : Int32) X Y
      refine j_aload_n (i := 0) (x := 70) (q := 136) d_Mod_salts_135 rfl rfl rfl ?_
      refine j_iload_n (i := 3) (x := w7) (q := 137) d_Mod_salts_136 rfl rfl rfl ?_
      refine j_if_eq (t := 151) (q := 140) d_Mod_salts_137 (by decide) rfl ?_ ?_
      · refine j_sub (L' := [some (.ref 70), some (.int x1), some (.int m2), some (.int w7), none, none]) ⟨rfl, ⟨rfl, ⟨rfl, ⟨rfl, trivial⟩⟩⟩⟩ ?_
        exact jb_Mod_salts_151 hK (fun a2 A B => l_Mod_salts_31 x1 kx n a2 A B) kx x1 m2 w7 ih hkx X9 Y10
      · refine j_aload_n (i := 0) (x := 70) (q := 141) d_Mod_salts_140 rfl rfl rfl ?_
        refine j_get (v := .int (X9 70 25)) (q := 144) d_Mod_salts_141 fk_Mod_238 fv_70_25 rfl ?_
        refine j_if_ne (t := 151) (q := 147) d_Mod_salts_144 (by decide) rfl ?_ ?_
        · refine j_sub (L' := [some (.ref 70), some (.int x1), some (.int m2), some (.int w7), none, none]) ⟨rfl, ⟨rfl, ⟨rfl, ⟨rfl, trivial⟩⟩⟩⟩ ?_
          exact jb_Mod_salts_151 hK (fun a2 A B => l_Mod_salts_31 x1 kx n a2 A B) kx x1 m2 w7 ih hkx X9 Y10
        · refine j_iload_n (i := 2) (x := m2) (q := 148) d_Mod_salts_147 rfl rfl rfl ?_
          refine j_goto (q := 155) d_Mod_salts_148 (by decide) ?_
          refine j_sub (L' := [some (.ref 70), some (.int x1), some (.int m2), some (.int w7), none, none]) ⟨rfl, ⟨rfl, ⟨rfl, ⟨rfl, trivial⟩⟩⟩⟩ ?_
          exact jb_Mod_salts_155 hK (fun a2 A B => l_Mod_salts_31 x1 kx n a2 A B) kx x1 m2 w7 m2 ih hkx X9 Y10
set_option maxRecDepth 4000 in
theorem c_Mod_salts {K : KK} (hK : kOK K) (x1 : Int32) (X : HI) (Y : HL) : CT K y_Mod_salts prog_8_method_63_code 6 (some .int) rm_Mod_salts [.ref 70, .int x1] X Y (f_Mod_salts x1 X Y) := by
  refine ct_of hK (L := [some (.ref 70), some (.int x1), none, none, none, none]) (by decide) ⟨rfl, ⟨rfl, trivial⟩⟩ (Nat.le_of_ble_eq_true rfl) ?_
  unfold f_Mod_salts
  refine j_aload_n (i := 0) (x := 70) (q := 1) d_Mod_salts_0 rfl rfl rfl ?_
  refine j_iconst (v := 0) (q := 2) d_Mod_salts_1 (by decide) rfl ?_
  refine j_putI (q := 5) d_Mod_salts_2 fp_Mod_56 fw_70_0 rfl (fun X1 => ?_)
  refine j_iload_n (i := 1) (x := x1) (q := 6) d_Mod_salts_5 rfl rfl rfl ?_
  refine j_i2l (q := 7) d_Mod_salts_6 rfl ?_
  refine j_lconst (v := 0) (q := 8) d_Mod_salts_7 (by decide) rfl ?_
  refine j_lconst (v := 1) (q := 9) d_Mod_salts_8 (by decide) rfl ?_
  refine j_callSi (S := []) (q := 12) [.long x1.toInt64, .long (0 : Int64), .long (1 : Int64)] d_Mod_salts_9 mw_Mod_in ms_Mod_in ml_Mod_63 rfl rfl (c_Mod_in hK (x1.toInt64) (0 : Int64) (1 : Int64) X1 Y) ⟨⟨rfl, rfl⟩, ⟨Nat.le_of_ble_eq_true rfl, Nat.le_of_ble_eq_true rfl⟩, ⟨Nat.le_refl 0, Nat.le_refl 0⟩⟩ (Nat.le_of_ble_eq_true rfl) rfl (fun r4 X2 Y3 => ?_)
  refine j_if_ne (t := 18) (q := 15) d_Mod_salts_12 (by decide) rfl ?_ ?_
  · refine j_aload_n (i := 0) (x := 70) (q := 19) d_Mod_salts_18 rfl rfl rfl ?_
    refine j_iconst (v := 0) (q := 20) d_Mod_salts_19 (by decide) rfl ?_
    refine j_putI (q := 23) d_Mod_salts_20 fp_Mod_238 fw_70_25 rfl (fun X5 => ?_)
    refine j_aload_n (i := 0) (x := 70) (q := 24) d_Mod_salts_23 rfl rfl rfl ?_
    refine j_bipush (v := -9) (q := 26) d_Mod_salts_24 (by decide +kernel) rfl ?_
    refine j_putI (q := 29) d_Mod_salts_26 fp_Mod_241 fw_70_26 rfl (fun X6 => ?_)
    refine j_iconst (v := 0) (q := 30) d_Mod_salts_29 (by decide) rfl ?_
    refine j_istore_n (i := 2) (L' := [some (.ref 70), some (.int x1), some (.int (0 : Int32)), none, none, none]) (q := 31) d_Mod_salts_30 rfl (by decide) rfl rfl rfl ?_
    refine j_sub (L' := [some (.ref 70), some (.int x1), some (.int (0 : Int32)), none, none, none]) ⟨rfl, ⟨rfl, ⟨rfl, trivial⟩⟩⟩ ?_
    refine jl_Mod_salts_31 hK x1 _ (fun w13 X14 Y15 => ?_) 256 (0 : Int32) X6 Y3
    refine j_iload_n (i := 1) (x := x1) (q := 183) d_Mod_salts_182 rfl rfl rfl ?_
    refine j_if_ne (t := 193) (q := 186) d_Mod_salts_183 (by decide) rfl ?_ ?_
    · refine j_aload_n (i := 0) (x := 70) (q := 194) d_Mod_salts_193 rfl rfl rfl ?_
      refine j_get (v := .int (X14 70 26)) (q := 197) d_Mod_salts_194 fk_Mod_241 fv_70_26 rfl ?_
      exact j_iret d_Mod_salts_197
    · refine j_aload_n (i := 0) (x := 70) (q := 187) d_Mod_salts_186 rfl rfl rfl ?_
      refine j_get (v := .int (X14 70 25)) (q := 190) d_Mod_salts_187 fk_Mod_238 fv_70_25 rfl ?_
      refine j_goto (q := 197) d_Mod_salts_190 (by decide) ?_
      exact j_iret d_Mod_salts_197
  · refine j_bipush (v := -2) (q := 17) d_Mod_salts_15 (by decide +kernel) rfl ?_
    exact j_iret d_Mod_salts_17
def f_Mod_lay (x1 : Int32) (x2 : Int32) (X : HI) (Y : HL) : Option Out :=
    gd (ixb (12 : Int32) 15) (
    wr (ixb (12 : Int32) 15) (up X 77 (12 : Int32).toNatClampNeg (((X 77 (12 : Int32).toNatClampNeg) &&& (((1 : Int32) <<< (x1 &&& 31)) ^^^ (-1 : Int32))) ||| (x2 <<< (x1 &&& 31)))) (fun X1 =>
    (rV X1 Y)))
set_option maxRecDepth 4000 in
theorem c_Mod_lay {K : KK} (hK : kOK K) (x1 : Int32) (x2 : Int32) (X : HI) (Y : HL) : CT K y_Mod_lay prog_8_method_64_code 3 none rm_Mod_lay [.ref 70, .int x1, .int x2] X Y (f_Mod_lay x1 x2 X Y) := by
  refine ct_of hK (L := [some (.ref 70), some (.int x1), some (.int x2)]) (by decide) ⟨rfl, ⟨rfl, ⟨rfl, trivial⟩⟩⟩ (Nat.le_of_ble_eq_true rfl) ?_
  unfold f_Mod_lay
  refine j_aload_n (i := 0) (x := 70) (q := 1) d_Mod_lay_0 rfl rfl rfl ?_
  refine j_get (v := .ref 77) (q := 4) d_Mod_lay_1 fk_Mod_28 fv_70_13 rfl ?_
  refine j_bipush (v := 12) (q := 6) d_Mod_lay_4 (by decide +kernel) rfl ?_
  refine j_aload_n (i := 0) (x := 70) (q := 7) d_Mod_lay_6 rfl rfl rfl ?_
  refine j_get (v := .ref 77) (q := 10) d_Mod_lay_7 fk_Mod_28 fv_70_13 rfl ?_
  refine j_bipush (v := 12) (q := 12) d_Mod_lay_10 (by decide +kernel) rfl ?_
  refine j_iald (q := 13) d_Mod_lay_12 ai_77 rfl ?_
  refine j_iconst (v := 1) (q := 14) d_Mod_lay_13 (by decide) rfl ?_
  refine j_iload_n (i := 1) (x := x1) (q := 15) d_Mod_lay_14 rfl rfl rfl ?_
  refine j_ishl (q := 16) d_Mod_lay_15 rfl ?_
  refine j_iconst (v := -1) (q := 17) d_Mod_lay_16 (by decide) rfl ?_
  refine j_ixor (q := 18) d_Mod_lay_17 rfl ?_
  refine j_iand (q := 19) d_Mod_lay_18 rfl ?_
  refine j_iload_n (i := 2) (x := x2) (q := 20) d_Mod_lay_19 rfl rfl rfl ?_
  refine j_iload_n (i := 1) (x := x1) (q := 21) d_Mod_lay_20 rfl rfl rfl ?_
  refine j_ishl (q := 22) d_Mod_lay_21 rfl ?_
  refine j_ior (q := 23) d_Mod_lay_22 rfl ?_
  refine j_iast (q := 24) d_Mod_lay_23 ai_77 rfl (fun X1 => ?_)
  exact j_vret d_Mod_lay_24
def l_Mod_rests_44 (x1 : Int32) (x2 : Int32) (x3 : Int32) (kx : Int32 → HI → HL → Option Out) : Nat → Int32 → HI → HL → Option Out
  | 0, _, _, _ => none
  | n + 1, m4, X, Y =>
    (if (4 : Int32) ≤ m4 then
    (kx m4 X Y)
    else
    bv (f_Mod_begin X Y) (fun X11 Y12 =>
    gd (nzb (2 : Int32)) (
    bv (f_Mod_lay x1 (m4 / (2 : Int32)) X11 Y12) (fun X13 Y14 =>
    gd (nzb (2 : Int32)) (
    bv (f_Mod_lay x2 (m4 - m4 / (2 : Int32) * (2 : Int32)) X13 Y14) (fun X15 Y16 =>
    bv (f_Mod_goDays 77 (3 : Int32) X15 Y16) (fun X17 Y18 =>
    bi (f_Mod_crustOf 77 x1 X17 Y18) (fun r21 X19 Y20 =>
    gd (ixb (x1 + (1 : Int32)) 15) (
    wr (ixb ((2 : Int32) * m4) 8) (up X19 84 ((2 : Int32) * m4).toNatClampNeg (r21 + (X19 77 (x1 + (1 : Int32)).toNatClampNeg))) (fun X22 =>
    bi (f_Mod_crustOf 77 x2 X22 Y20) (fun r25 X23 Y24 =>
    gd (ixb (x2 + (1 : Int32)) 15) (
    wr (ixb (((2 : Int32) * m4) + (1 : Int32)) 8) (up X23 84 (((2 : Int32) * m4) + (1 : Int32)).toNatClampNeg (r25 + (X23 77 (x2 + (1 : Int32)).toNatClampNeg))) (fun X26 =>
    (l_Mod_rests_44 x1 x2 x3 kx n (m4 + (1 : Int32)) X26 Y24))))))))))))))
def b_Mod_rests_268 (kc : Int32 → HI → HL → Option Out) (kx : Int32 → HI → HL → Option Out) (x3 : Int32) (x4 : Int32) (s0 : Int32) (s1 : Int32) (X : HI) (Y : HL) : Option Out :=
    lh (up X 70 27 (s1 + s0)) (fun X33 =>
    (kc (x4 + (1 : Int32)) X33 Y))
def b_Mod_rests_250 (kc : Int32 → HI → HL → Option Out) (kx : Int32 → HI → HL → Option Out) (x3 : Int32) (x4 : Int32) (x5 : Int32) (s0 : Int32) (X : HI) (Y : HL) : Option Out :=
    lh (up X 70 28 s0) (fun X32 =>
    (if x5 = 0 then
    (b_Mod_rests_268 kc kx x3 x4 (0 : Int32) (X32 70 27) X32 Y)
    else
    (b_Mod_rests_268 kc kx x3 x4 (1 : Int32) (X32 70 27) X32 Y)))
def b_Mod_rests_246 (kc : Int32 → HI → HL → Option Out) (kx : Int32 → HI → HL → Option Out) (x3 : Int32) (x4 : Int32) (x5 : Int32) (X : HI) (Y : HL) : Option Out :=
    (b_Mod_rests_250 kc kx x3 x4 x5 (X 70 28) X Y)
def b_Mod_rests_216 (kc : Int32 → HI → HL → Option Out) (kx : Int32 → HI → HL → Option Out) (x3 : Int32) (x4 : Int32) (s0 : Int32) (X : HI) (Y : HL) : Option Out :=
    (if s0 = 0 then
    (b_Mod_rests_246 kc kx x3 x4 s0 X Y)
    else
    (if (X 70 27) = 0 then
    gd (nzb (2 : Int32)) (
    gd (nzb (2 : Int32)) (
    (b_Mod_rests_250 kc kx x3 x4 s0 (((10 : Int32) * (x4 / (2 : Int32))) + (x4 - x4 / (2 : Int32) * (2 : Int32))) X Y)))
    else
    (b_Mod_rests_246 kc kx x3 x4 s0 X Y)))
def b_Mod_rests_215 (kc : Int32 → HI → HL → Option Out) (kx : Int32 → HI → HL → Option Out) (x3 : Int32) (x4 : Int32) (X : HI) (Y : HL) : Option Out :=
    (b_Mod_rests_216 kc kx x3 x4 (0 : Int32) X Y)
def l_Mod_rests_155 (x3 : Int32) (kx : Int32 → HI → HL → Option Out) : Nat → Int32 → HI → HL → Option Out
  | 0, _, _, _ => none
  | n + 1, m4, X, Y =>
    (if (4 : Int32) ≤ m4 then
    (kx m4 X Y)
    else
    gd (ixb ((2 : Int32) * (m4 ^^^ (2 : Int32))) 8) (
    gd (ixb ((2 : Int32) * m4) 8) (
    (if (X 84 ((2 : Int32) * m4).toNatClampNeg) < (X 84 ((2 : Int32) * (m4 ^^^ (2 : Int32))).toNatClampNeg) then
    (b_Mod_rests_215 (fun a4 A B => l_Mod_rests_155 x3 kx n a4 A B) kx x3 m4 X Y)
    else
    gd (ixb (((2 : Int32) * (m4 ^^^ (1 : Int32))) + (1 : Int32)) 8) (
    gd (ixb (((2 : Int32) * m4) + (1 : Int32)) 8) (
    (if (X 84 (((2 : Int32) * m4) + (1 : Int32)).toNatClampNeg) < (X 84 (((2 : Int32) * (m4 ^^^ (1 : Int32))) + (1 : Int32)).toNatClampNeg) then
    (b_Mod_rests_215 (fun a4 A B => l_Mod_rests_155 x3 kx n a4 A B) kx x3 m4 X Y)
    else
    (b_Mod_rests_216 (fun a4 A B => l_Mod_rests_155 x3 kx n a4 A B) kx x3 m4 (1 : Int32) X Y))))))))
def f_Mod_rests (x1 : Int32) (x2 : Int32) (x3 : Int32) (X : HI) (Y : HL) : Option Out :=
    lh (up X 70 0 (0 : Int32)) (fun X1 =>
    bi (f_Mod_noGate x1 X1 Y) (fun r4 X2 Y3 =>
    (if r4 = 0 then
    bi (f_Mod_noGate x2 X2 Y3) (fun r7 X5 Y6 =>
    (if r7 = 0 then
    (if x1 = x2 then
    (rI (-2 : Int32) X5 Y6)
    else
    bi (f_Mod_in (x3.toInt64) (0 : Int64) (1 : Int64) X5 Y6) (fun r10 X8 Y9 =>
    (if r10 = 0 then
    (rI (-2 : Int32) X8 Y9)
    else
    (l_Mod_rests_44 x1 x2 x3 (fun w27 X28 Y29 =>
    lh (up X28 70 27 (0 : Int32)) (fun X30 =>
    lh (up X30 70 28 (-9 : Int32)) (fun X31 =>
    (l_Mod_rests_155 x3 (fun w34 X35 Y36 =>
    (if x3 = 0 then
    (rI (X35 70 27) X35 Y36)
    else
    (rI (X35 70 28) X35 Y36))) 256 (0 : Int32) X31 Y29)))) 256 (0 : Int32) X8 Y9))))
    else
    (rI (-1 : Int32) X5 Y6)))
    else
    (rI (-1 : Int32) X2 Y3))))
set_option maxRecDepth 4000 in
theorem jl_Mod_rests_44 {K : KK} (hK : kOK K) (x1 : Int32) (x2 : Int32) (x3 : Int32) (kx : Int32 → HI → HL → Option Out) (hkx : ∀ (m4 : Int32) (X : HI) (Y : HL), JO K "BrinePansModel" prog_8_method_65_code 6 (some .int) rm_Mod_rests 0 0 (MZ K) 141 [some (.ref 70), none, none, some (.int x3), none, none] [] X Y (kx m4 X Y)) : ∀ (n : Nat) (m4 : Int32) (X : HI) (Y : HL), JO K "BrinePansModel" prog_8_method_65_code 6 (some .int) rm_Mod_rests 0 0 (MZ K) 44 [some (.ref 70), some (.int x1), some (.int x2), some (.int x3), some (.int m4), none] [] X Y (l_Mod_rests_44 x1 x2 x3 kx n m4 X Y) := by
  intro n
  induction n with
  | zero =>
    intro m4 X Y
    rw [l_Mod_rests_44]
    exact j_none
  | succ n ih =>
    intro m4 X Y
    rw [l_Mod_rests_44]
    refine j_iload (i := 4) (x := m4) (q := 46) d_Mod_rests_44 rfl rfl ?_
    refine j_iconst (v := 4) (q := 47) d_Mod_rests_46 (by decide) rfl ?_
    refine j_icmp_ge (t := 141) (q := 50) d_Mod_rests_47 (by decide) rfl ?_ ?_
    · refine j_sub (L' := [some (.ref 70), none, none, some (.int x3), none, none]) ⟨rfl, ⟨rfl, trivial⟩⟩ ?_
      exact hkx m4 X Y
    · refine j_aload_n (i := 0) (x := 70) (q := 51) d_Mod_rests_50 rfl rfl rfl ?_
      refine j_callVv (a := 70) (S := []) (q := 54) [] d_Mod_rests_51 mw_Mod_begin mv_Mod_begin ml_Mod_182 ob_70 rfl rfl (c_Mod_begin hK X Y) ⟨⟨rfl, rfl⟩, ⟨Nat.le_of_ble_eq_true rfl, Nat.le_of_ble_eq_true rfl⟩, ⟨Nat.le_refl 0, Nat.le_refl 0⟩⟩ (Nat.le_of_ble_eq_true rfl) rfl (fun X11 Y12 => ?_)
      refine j_aload_n (i := 0) (x := 70) (q := 55) d_Mod_rests_54 rfl rfl rfl ?_
      refine j_iload_n (i := 1) (x := x1) (q := 56) d_Mod_rests_55 rfl rfl rfl ?_
      refine j_iload (i := 4) (x := m4) (q := 58) d_Mod_rests_56 rfl rfl ?_
      refine j_iconst (v := 2) (q := 59) d_Mod_rests_58 (by decide) rfl ?_
      refine j_idiv (q := 60) d_Mod_rests_59 rfl ?_
      refine j_callVv (a := 70) (S := []) (q := 63) [.int x1, .int (m4 / (2 : Int32))] d_Mod_rests_60 mw_Mod_lay mv_Mod_lay ml_Mod_244 ob_70 rfl rfl (c_Mod_lay hK x1 (m4 / (2 : Int32)) X11 Y12) ⟨⟨rfl, rfl⟩, ⟨Nat.le_of_ble_eq_true rfl, Nat.le_of_ble_eq_true rfl⟩, ⟨Nat.le_refl 0, Nat.le_refl 0⟩⟩ (Nat.le_of_ble_eq_true rfl) rfl (fun X13 Y14 => ?_)
      refine j_aload_n (i := 0) (x := 70) (q := 64) d_Mod_rests_63 rfl rfl rfl ?_
      refine j_iload_n (i := 2) (x := x2) (q := 65) d_Mod_rests_64 rfl rfl rfl ?_
      refine j_iload (i := 4) (x := m4) (q := 67) d_Mod_rests_65 rfl rfl ?_
      refine j_iconst (v := 2) (q := 68) d_Mod_rests_67 (by decide) rfl ?_
      refine j_irem (q := 69) d_Mod_rests_68 rfl ?_
      refine j_callVv (a := 70) (S := []) (q := 72) [.int x2, .int (m4 - m4 / (2 : Int32) * (2 : Int32))] d_Mod_rests_69 mw_Mod_lay mv_Mod_lay ml_Mod_244 ob_70 rfl rfl (c_Mod_lay hK x2 (m4 - m4 / (2 : Int32) * (2 : Int32)) X13 Y14) ⟨⟨rfl, rfl⟩, ⟨Nat.le_of_ble_eq_true rfl, Nat.le_of_ble_eq_true rfl⟩, ⟨Nat.le_refl 0, Nat.le_refl 0⟩⟩ (Nat.le_of_ble_eq_true rfl) rfl (fun X15 Y16 => ?_)
      refine j_aload_n (i := 0) (x := 70) (q := 73) d_Mod_rests_72 rfl rfl rfl ?_
      refine j_aload_n (i := 0) (x := 70) (q := 74) d_Mod_rests_73 rfl rfl rfl ?_
      refine j_get (v := .ref 77) (q := 77) d_Mod_rests_74 fk_Mod_28 fv_70_13 rfl ?_
      refine j_iconst (v := 3) (q := 78) d_Mod_rests_77 (by decide) rfl ?_
      refine j_callVv (a := 70) (S := []) (q := 81) [.ref 77, .int (3 : Int32)] d_Mod_rests_78 mw_Mod_goDays mv_Mod_goDays ml_Mod_185 ob_70 rfl rfl (c_Mod_goDays hK 77 ai_77 (3 : Int32) X15 Y16) ⟨⟨rfl, rfl⟩, ⟨Nat.le_of_ble_eq_true rfl, Nat.le_of_ble_eq_true rfl⟩, ⟨Nat.le_refl 0, Nat.le_refl 0⟩⟩ (Nat.le_of_ble_eq_true rfl) rfl (fun X17 Y18 => ?_)
      refine j_aload_n (i := 0) (x := 70) (q := 82) d_Mod_rests_81 rfl rfl rfl ?_
      refine j_get (v := .ref 84) (q := 85) d_Mod_rests_82 fk_Mod_50 fv_70_29 rfl ?_
      refine j_iconst (v := 2) (q := 86) d_Mod_rests_85 (by decide) rfl ?_
      refine j_iload (i := 4) (x := m4) (q := 88) d_Mod_rests_86 rfl rfl ?_
      refine j_imul (q := 89) d_Mod_rests_88 rfl ?_
      refine j_aload_n (i := 0) (x := 70) (q := 90) d_Mod_rests_89 rfl rfl rfl ?_
      refine j_get (v := .ref 77) (q := 93) d_Mod_rests_90 fk_Mod_28 fv_70_13 rfl ?_
      refine j_iload_n (i := 1) (x := x1) (q := 94) d_Mod_rests_93 rfl rfl rfl ?_
      refine j_callSi (S := [.int ((2 : Int32) * m4), .ref 84]) (q := 97) [.ref 77, .int x1] d_Mod_rests_94 mw_Mod_crustOf ms_Mod_crustOf ml_Mod_110 rfl rfl (c_Mod_crustOf hK 77 ai_77 x1 X17 Y18) ⟨⟨rfl, rfl⟩, ⟨Nat.le_of_ble_eq_true rfl, Nat.le_of_ble_eq_true rfl⟩, ⟨Nat.le_refl 0, Nat.le_refl 0⟩⟩ (Nat.le_of_ble_eq_true rfl) rfl (fun r21 X19 Y20 => ?_)
      refine j_aload_n (i := 0) (x := 70) (q := 98) d_Mod_rests_97 rfl rfl rfl ?_
      refine j_get (v := .ref 77) (q := 101) d_Mod_rests_98 fk_Mod_28 fv_70_13 rfl ?_
      refine j_iload_n (i := 1) (x := x1) (q := 102) d_Mod_rests_101 rfl rfl rfl ?_
      refine j_iconst (v := 1) (q := 103) d_Mod_rests_102 (by decide) rfl ?_
      refine j_iadd (q := 104) d_Mod_rests_103 rfl ?_
      refine j_iald (q := 105) d_Mod_rests_104 ai_77 rfl ?_
      refine j_iadd (q := 106) d_Mod_rests_105 rfl ?_
      refine j_iast (q := 107) d_Mod_rests_106 ai_84 rfl (fun X22 => ?_)
      refine j_aload_n (i := 0) (x := 70) (q := 108) d_Mod_rests_107 rfl rfl rfl ?_
      refine j_get (v := .ref 84) (q := 111) d_Mod_rests_108 fk_Mod_50 fv_70_29 rfl ?_
      refine j_iconst (v := 2) (q := 112) d_Mod_rests_111 (by decide) rfl ?_
      refine j_iload (i := 4) (x := m4) (q := 114) d_Mod_rests_112 rfl rfl ?_
      refine j_imul (q := 115) d_Mod_rests_114 rfl ?_
      refine j_iconst (v := 1) (q := 116) d_Mod_rests_115 (by decide) rfl ?_
      refine j_iadd (q := 117) d_Mod_rests_116 rfl ?_
      refine j_aload_n (i := 0) (x := 70) (q := 118) d_Mod_rests_117 rfl rfl rfl ?_
      refine j_get (v := .ref 77) (q := 121) d_Mod_rests_118 fk_Mod_28 fv_70_13 rfl ?_
      refine j_iload_n (i := 2) (x := x2) (q := 122) d_Mod_rests_121 rfl rfl rfl ?_
      refine j_callSi (S := [.int (((2 : Int32) * m4) + (1 : Int32)), .ref 84]) (q := 125) [.ref 77, .int x2] d_Mod_rests_122 mw_Mod_crustOf ms_Mod_crustOf ml_Mod_110 rfl rfl (c_Mod_crustOf hK 77 ai_77 x2 X22 Y20) ⟨⟨rfl, rfl⟩, ⟨Nat.le_of_ble_eq_true rfl, Nat.le_of_ble_eq_true rfl⟩, ⟨Nat.le_refl 0, Nat.le_refl 0⟩⟩ (Nat.le_of_ble_eq_true rfl) rfl (fun r25 X23 Y24 => ?_)
      refine j_aload_n (i := 0) (x := 70) (q := 126) d_Mod_rests_125 rfl rfl rfl ?_
      refine j_get (v := .ref 77) (q := 129) d_Mod_rests_126 fk_Mod_28 fv_70_13 rfl ?_
      refine j_iload_n (i := 2) (x := x2) (q := 130) d_Mod_rests_129 rfl rfl rfl ?_
      refine j_iconst (v := 1) (q := 131) d_Mod_rests_130 (by decide) rfl ?_
      refine j_iadd (q := 132) d_Mod_rests_131 rfl ?_
      refine j_iald (q := 133) d_Mod_rests_132 ai_77 rfl ?_
      refine j_iadd (q := 134) d_Mod_rests_133 rfl ?_
      refine j_iast (q := 135) d_Mod_rests_134 ai_84 rfl (fun X26 => ?_)
      refine j_iinc (i := 4) (x := m4) (d := 1) (L' := [some (.ref 70), some (.int x1), some (.int x2), some (.int x3), some (.int (m4 + (1 : Int32))), none]) (q := 138) d_Mod_rests_135 rfl (by decide) (by decide) rfl rfl rfl ?_
      refine j_goto (q := 44) d_Mod_rests_138 (by decide) ?_
      refine j_sub (L' := [some (.ref 70), some (.int x1), some (.int x2), some (.int x3), some (.int (m4 + (1 : Int32))), none]) ⟨rfl, ⟨rfl, ⟨rfl, ⟨rfl, ⟨rfl, trivial⟩⟩⟩⟩⟩ ?_
      exact ih (m4 + (1 : Int32)) X26 Y24
set_option maxRecDepth 4000 in
theorem jb_Mod_rests_268 {K : KK} (hK : kOK K) (kc : Int32 → HI → HL → Option Out) (kx : Int32 → HI → HL → Option Out) (x3 : Int32) (x4 : Int32) (s0 : Int32) (s1 : Int32) (hkc : ∀ (m4 : Int32) (X : HI) (Y : HL), JO K "BrinePansModel" prog_8_method_65_code 6 (some .int) rm_Mod_rests 0 0 (MZ K) 155 [some (.ref 70), none, none, some (.int x3), some (.int m4), none] [] X Y (kc m4 X Y)) (hkx : ∀ (m4 : Int32) (X : HI) (Y : HL), JO K "BrinePansModel" prog_8_method_65_code 6 (some .int) rm_Mod_rests 0 0 (MZ K) 278 [some (.ref 70), none, none, some (.int x3), none, none] [] X Y (kx m4 X Y)) (X : HI) (Y : HL) : JO K "BrinePansModel" prog_8_method_65_code 6 (some .int) rm_Mod_rests 0 0 (MZ K) 268 [some (.ref 70), none, none, some (.int x3), some (.int x4), none] [.int s0, .int s1, .ref 70] X Y (b_Mod_rests_268 kc kx x3 x4 s0 s1 X Y) := by
  unfold b_Mod_rests_268
  refine j_iadd (q := 269) d_Mod_rests_268 rfl ?_
  refine j_putI (q := 272) d_Mod_rests_269 fp_Mod_248 fw_70_27 rfl (fun X33 => ?_)
  refine j_iinc (i := 4) (x := x4) (d := 1) (L' := [some (.ref 70), none, none, some (.int x3), some (.int (x4 + (1 : Int32))), none]) (q := 275) d_Mod_rests_272 rfl (by decide) (by decide) rfl rfl rfl ?_
  refine j_goto (q := 155) d_Mod_rests_275 (by decide) ?_
  refine j_sub (L' := [some (.ref 70), none, none, some (.int x3), some (.int (x4 + (1 : Int32))), none]) ⟨rfl, ⟨rfl, ⟨rfl, trivial⟩⟩⟩ ?_
  exact hkc (x4 + (1 : Int32)) X33 Y
set_option maxRecDepth 4000 in
theorem jb_Mod_rests_250 {K : KK} (hK : kOK K) (kc : Int32 → HI → HL → Option Out) (kx : Int32 → HI → HL → Option Out) (x3 : Int32) (x4 : Int32) (x5 : Int32) (s0 : Int32) (hkc : ∀ (m4 : Int32) (X : HI) (Y : HL), JO K "BrinePansModel" prog_8_method_65_code 6 (some .int) rm_Mod_rests 0 0 (MZ K) 155 [some (.ref 70), none, none, some (.int x3), some (.int m4), none] [] X Y (kc m4 X Y)) (hkx : ∀ (m4 : Int32) (X : HI) (Y : HL), JO K "BrinePansModel" prog_8_method_65_code 6 (some .int) rm_Mod_rests 0 0 (MZ K) 278 [some (.ref 70), none, none, some (.int x3), none, none] [] X Y (kx m4 X Y)) (X : HI) (Y : HL) : JO K "BrinePansModel" prog_8_method_65_code 6 (some .int) rm_Mod_rests 0 0 (MZ K) 250 [some (.ref 70), none, none, some (.int x3), some (.int x4), some (.int x5)] [.int s0, .ref 70] X Y (b_Mod_rests_250 kc kx x3 x4 x5 s0 X Y) := by
  unfold b_Mod_rests_250
  refine j_putI (q := 253) d_Mod_rests_250 fp_Mod_251 fw_70_28 rfl (fun X32 => ?_)
  refine j_aload_n (i := 0) (x := 70) (q := 254) d_Mod_rests_253 rfl rfl rfl ?_
  refine j_dup (q := 255) d_Mod_rests_254 rfl rfl ?_
  refine j_get (v := .int (X32 70 27)) (q := 258) d_Mod_rests_255 fk_Mod_248 fv_70_27 rfl ?_
  refine j_iload (i := 5) (x := x5) (q := 260) d_Mod_rests_258 rfl rfl ?_
  refine j_if_eq (t := 267) (q := 263) d_Mod_rests_260 (by decide) rfl ?_ ?_
  · refine j_iconst (v := 0) (q := 268) d_Mod_rests_267 (by decide) rfl ?_
    refine j_sub (L' := [some (.ref 70), none, none, some (.int x3), some (.int x4), none]) ⟨rfl, ⟨rfl, ⟨rfl, trivial⟩⟩⟩ ?_
    exact jb_Mod_rests_268 hK kc kx x3 x4 (0 : Int32) (X32 70 27) hkc hkx X32 Y
  · refine j_iconst (v := 1) (q := 264) d_Mod_rests_263 (by decide) rfl ?_
    refine j_goto (q := 268) d_Mod_rests_264 (by decide) ?_
    refine j_sub (L' := [some (.ref 70), none, none, some (.int x3), some (.int x4), none]) ⟨rfl, ⟨rfl, ⟨rfl, trivial⟩⟩⟩ ?_
    exact jb_Mod_rests_268 hK kc kx x3 x4 (1 : Int32) (X32 70 27) hkc hkx X32 Y
set_option maxRecDepth 4000 in
theorem jb_Mod_rests_246 {K : KK} (hK : kOK K) (kc : Int32 → HI → HL → Option Out) (kx : Int32 → HI → HL → Option Out) (x3 : Int32) (x4 : Int32) (x5 : Int32) (hkc : ∀ (m4 : Int32) (X : HI) (Y : HL), JO K "BrinePansModel" prog_8_method_65_code 6 (some .int) rm_Mod_rests 0 0 (MZ K) 155 [some (.ref 70), none, none, some (.int x3), some (.int m4), none] [] X Y (kc m4 X Y)) (hkx : ∀ (m4 : Int32) (X : HI) (Y : HL), JO K "BrinePansModel" prog_8_method_65_code 6 (some .int) rm_Mod_rests 0 0 (MZ K) 278 [some (.ref 70), none, none, some (.int x3), none, none] [] X Y (kx m4 X Y)) (X : HI) (Y : HL) : JO K "BrinePansModel" prog_8_method_65_code 6 (some .int) rm_Mod_rests 0 0 (MZ K) 246 [some (.ref 70), none, none, some (.int x3), some (.int x4), some (.int x5)] [.ref 70] X Y (b_Mod_rests_246 kc kx x3 x4 x5 X Y) := by
  unfold b_Mod_rests_246
  refine j_aload_n (i := 0) (x := 70) (q := 247) d_Mod_rests_246 rfl rfl rfl ?_
  refine j_get (v := .int (X 70 28)) (q := 250) d_Mod_rests_247 fk_Mod_251 fv_70_28 rfl ?_
  refine j_sub (L' := [some (.ref 70), none, none, some (.int x3), some (.int x4), some (.int x5)]) ⟨rfl, ⟨rfl, ⟨rfl, ⟨rfl, trivial⟩⟩⟩⟩ ?_
  exact jb_Mod_rests_250 hK kc kx x3 x4 x5 (X 70 28) hkc hkx X Y
set_option maxRecDepth 4000 in
theorem jb_Mod_rests_216 {K : KK} (hK : kOK K) (kc : Int32 → HI → HL → Option Out) (kx : Int32 → HI → HL → Option Out) (x3 : Int32) (x4 : Int32) (s0 : Int32) (hkc : ∀ (m4 : Int32) (X : HI) (Y : HL), JO K "BrinePansModel" prog_8_method_65_code 6 (some .int) rm_Mod_rests 0 0 (MZ K) 155 [some (.ref 70), none, none, some (.int x3), some (.int m4), none] [] X Y (kc m4 X Y)) (hkx : ∀ (m4 : Int32) (X : HI) (Y : HL), JO K "BrinePansModel" prog_8_method_65_code 6 (some .int) rm_Mod_rests 0 0 (MZ K) 278 [some (.ref 70), none, none, some (.int x3), none, none] [] X Y (kx m4 X Y)) (X : HI) (Y : HL) : JO K "BrinePansModel" prog_8_method_65_code 6 (some .int) rm_Mod_rests 0 0 (MZ K) 216 [some (.ref 70), none, none, some (.int x3), some (.int x4), none] [.int s0] X Y (b_Mod_rests_216 kc kx x3 x4 s0 X Y) := by
  unfold b_Mod_rests_216
  refine j_istore (i := 5) (L' := [some (.ref 70), none, none, some (.int x3), some (.int x4), some (.int s0)]) (q := 218) d_Mod_rests_216 (by decide) rfl rfl rfl ?_
  refine j_aload_n (i := 0) (x := 70) (q := 219) d_Mod_rests_218 rfl rfl rfl ?_
  refine j_iload (i := 5) (x := s0) (q := 221) d_Mod_rests_219 rfl rfl ?_
  refine j_if_eq (t := 246) (q := 224) d_Mod_rests_221 (by decide) rfl ?_ ?_
  · refine j_sub (L' := [some (.ref 70), none, none, some (.int x3), some (.int x4), some (.int s0)]) ⟨rfl, ⟨rfl, ⟨rfl, ⟨rfl, trivial⟩⟩⟩⟩ ?_
    exact jb_Mod_rests_246 hK kc kx x3 x4 s0 hkc hkx X Y
  · refine j_aload_n (i := 0) (x := 70) (q := 225) d_Mod_rests_224 rfl rfl rfl ?_
    refine j_get (v := .int (X 70 27)) (q := 228) d_Mod_rests_225 fk_Mod_248 fv_70_27 rfl ?_
    refine j_if_ne (t := 246) (q := 231) d_Mod_rests_228 (by decide) rfl ?_ ?_
    · refine j_sub (L' := [some (.ref 70), none, none, some (.int x3), some (.int x4), some (.int s0)]) ⟨rfl, ⟨rfl, ⟨rfl, ⟨rfl, trivial⟩⟩⟩⟩ ?_
      exact jb_Mod_rests_246 hK kc kx x3 x4 s0 hkc hkx X Y
    · refine j_bipush (v := 10) (q := 233) d_Mod_rests_231 (by decide +kernel) rfl ?_
      refine j_iload (i := 4) (x := x4) (q := 235) d_Mod_rests_233 rfl rfl ?_
      refine j_iconst (v := 2) (q := 236) d_Mod_rests_235 (by decide) rfl ?_
      refine j_idiv (q := 237) d_Mod_rests_236 rfl ?_
      refine j_imul (q := 238) d_Mod_rests_237 rfl ?_
      refine j_iload (i := 4) (x := x4) (q := 240) d_Mod_rests_238 rfl rfl ?_
      refine j_iconst (v := 2) (q := 241) d_Mod_rests_240 (by decide) rfl ?_
      refine j_irem (q := 242) d_Mod_rests_241 rfl ?_
      refine j_iadd (q := 243) d_Mod_rests_242 rfl ?_
      refine j_goto (q := 250) d_Mod_rests_243 (by decide) ?_
      refine j_sub (L' := [some (.ref 70), none, none, some (.int x3), some (.int x4), some (.int s0)]) ⟨rfl, ⟨rfl, ⟨rfl, ⟨rfl, trivial⟩⟩⟩⟩ ?_
      exact jb_Mod_rests_250 hK kc kx x3 x4 s0 (((10 : Int32) * (x4 / (2 : Int32))) + (x4 - x4 / (2 : Int32) * (2 : Int32))) hkc hkx X Y
set_option maxRecDepth 4000 in
theorem jb_Mod_rests_215 {K : KK} (hK : kOK K) (kc : Int32 → HI → HL → Option Out) (kx : Int32 → HI → HL → Option Out) (x3 : Int32) (x4 : Int32) (hkc : ∀ (m4 : Int32) (X : HI) (Y : HL), JO K "BrinePansModel" prog_8_method_65_code 6 (some .int) rm_Mod_rests 0 0 (MZ K) 155 [some (.ref 70), none, none, some (.int x3), some (.int m4), none] [] X Y (kc m4 X Y)) (hkx : ∀ (m4 : Int32) (X : HI) (Y : HL), JO K "BrinePansModel" prog_8_method_65_code 6 (some .int) rm_Mod_rests 0 0 (MZ K) 278 [some (.ref 70), none, none, some (.int x3), none, none] [] X Y (kx m4 X Y)) (X : HI) (Y : HL) : JO K "BrinePansModel" prog_8_method_65_code 6 (some .int) rm_Mod_rests 0 0 (MZ K) 215 [some (.ref 70), none, none, some (.int x3), some (.int x4), none] [] X Y (b_Mod_rests_215 kc kx x3 x4 X Y) := by
  unfold b_Mod_rests_215
  refine j_iconst (v := 0) (q := 216) d_Mod_rests_215 (by decide) rfl ?_
  refine j_sub (L' := [some (.ref 70), none, none, some (.int x3), some (.int x4), none]) ⟨rfl, ⟨rfl, ⟨rfl, trivial⟩⟩⟩ ?_
  exact jb_Mod_rests_216 hK kc kx x3 x4 (0 : Int32) hkc hkx X Y
set_option maxRecDepth 4000 in
theorem jl_Mod_rests_155 {K : KK} (hK : kOK K) (x3 : Int32) (kx : Int32 → HI → HL → Option Out) (hkx : ∀ (m4 : Int32) (X : HI) (Y : HL), JO K "BrinePansModel" prog_8_method_65_code 6 (some .int) rm_Mod_rests 0 0 (MZ K) 278 [some (.ref 70), none, none, some (.int x3), none, none] [] X Y (kx m4 X Y)) : ∀ (n : Nat) (m4 : Int32) (X : HI) (Y : HL), JO K "BrinePansModel" prog_8_method_65_code 6 (some .int) rm_Mod_rests 0 0 (MZ K) 155 [some (.ref 70), none, none, some (.int x3), some (.int m4), none] [] X Y (l_Mod_rests_155 x3 kx n m4 X Y) := by
  intro n
  induction n with
  | zero =>
    intro m4 X Y
    rw [l_Mod_rests_155]
    exact j_none
  | succ n ih =>
    intro m4 X Y
    rw [l_Mod_rests_155]
    refine j_iload (i := 4) (x := m4) (q := 157) d_Mod_rests_155 rfl rfl ?_
    refine j_iconst (v := 4) (q := 158) d_Mod_rests_157 (by decide) rfl ?_
    refine j_icmp_ge (t := 278) (q := 161) d_Mod_rests_158 (by decide) rfl ?_ ?_
    · refine j_sub (L' := [some (.ref 70), none, none, some (.int x3), none, none]) ⟨rfl, ⟨rfl, trivial⟩⟩ ?_
      exact hkx m4 X Y
    · refine j_aload_n (i := 0) (x := 70) (q := 162) d_Mod_rests_161 rfl rfl rfl ?_
      refine j_get (v := .ref 84) (q := 165) d_Mod_rests_162 fk_Mod_50 fv_70_29 rfl ?_
      refine j_iconst (v := 2) (q := 166) d_Mod_rests_165 (by decide) rfl ?_
      refine j_iload (i := 4) (x := m4) (q := 168) d_Mod_rests_166 rfl rfl ?_
      refine j_iconst (v := 2) (q := 169) d_Mod_rests_168 (by decide) rfl ?_
      refine j_ixor (q := 170) d_Mod_rests_169 rfl ?_
      refine j_imul (q := 171) d_Mod_rests_170 rfl ?_
      refine j_iald (q := 172) d_Mod_rests_171 ai_84 rfl ?_
      refine j_aload_n (i := 0) (x := 70) (q := 173) d_Mod_rests_172 rfl rfl rfl ?_
      refine j_get (v := .ref 84) (q := 176) d_Mod_rests_173 fk_Mod_50 fv_70_29 rfl ?_
      refine j_iconst (v := 2) (q := 177) d_Mod_rests_176 (by decide) rfl ?_
      refine j_iload (i := 4) (x := m4) (q := 179) d_Mod_rests_177 rfl rfl ?_
      refine j_imul (q := 180) d_Mod_rests_179 rfl ?_
      refine j_iald (q := 181) d_Mod_rests_180 ai_84 rfl ?_
      refine j_icmp_gt (t := 215) (q := 184) d_Mod_rests_181 (by decide) rfl ?_ ?_
      · refine j_sub (L' := [some (.ref 70), none, none, some (.int x3), some (.int m4), none]) ⟨rfl, ⟨rfl, ⟨rfl, trivial⟩⟩⟩ ?_
        exact jb_Mod_rests_215 hK (fun a4 A B => l_Mod_rests_155 x3 kx n a4 A B) kx x3 m4 ih hkx X Y
      · refine j_aload_n (i := 0) (x := 70) (q := 185) d_Mod_rests_184 rfl rfl rfl ?_
        refine j_get (v := .ref 84) (q := 188) d_Mod_rests_185 fk_Mod_50 fv_70_29 rfl ?_
        refine j_iconst (v := 2) (q := 189) d_Mod_rests_188 (by decide) rfl ?_
        refine j_iload (i := 4) (x := m4) (q := 191) d_Mod_rests_189 rfl rfl ?_
        refine j_iconst (v := 1) (q := 192) d_Mod_rests_191 (by decide) rfl ?_
        refine j_ixor (q := 193) d_Mod_rests_192 rfl ?_
        refine j_imul (q := 194) d_Mod_rests_193 rfl ?_
        refine j_iconst (v := 1) (q := 195) d_Mod_rests_194 (by decide) rfl ?_
        refine j_iadd (q := 196) d_Mod_rests_195 rfl ?_
        refine j_iald (q := 197) d_Mod_rests_196 ai_84 rfl ?_
        refine j_aload_n (i := 0) (x := 70) (q := 198) d_Mod_rests_197 rfl rfl rfl ?_
        refine j_get (v := .ref 84) (q := 201) d_Mod_rests_198 fk_Mod_50 fv_70_29 rfl ?_
        refine j_iconst (v := 2) (q := 202) d_Mod_rests_201 (by decide) rfl ?_
        refine j_iload (i := 4) (x := m4) (q := 204) d_Mod_rests_202 rfl rfl ?_
        refine j_imul (q := 205) d_Mod_rests_204 rfl ?_
        refine j_iconst (v := 1) (q := 206) d_Mod_rests_205 (by decide) rfl ?_
        refine j_iadd (q := 207) d_Mod_rests_206 rfl ?_
        refine j_iald (q := 208) d_Mod_rests_207 ai_84 rfl ?_
        refine j_icmp_gt (t := 215) (q := 211) d_Mod_rests_208 (by decide) rfl ?_ ?_
        · refine j_sub (L' := [some (.ref 70), none, none, some (.int x3), some (.int m4), none]) ⟨rfl, ⟨rfl, ⟨rfl, trivial⟩⟩⟩ ?_
          exact jb_Mod_rests_215 hK (fun a4 A B => l_Mod_rests_155 x3 kx n a4 A B) kx x3 m4 ih hkx X Y
        · refine j_iconst (v := 1) (q := 212) d_Mod_rests_211 (by decide) rfl ?_
          refine j_goto (q := 216) d_Mod_rests_212 (by decide) ?_
          refine j_sub (L' := [some (.ref 70), none, none, some (.int x3), some (.int m4), none]) ⟨rfl, ⟨rfl, ⟨rfl, trivial⟩⟩⟩ ?_
          exact jb_Mod_rests_216 hK (fun a4 A B => l_Mod_rests_155 x3 kx n a4 A B) kx x3 m4 (1 : Int32) ih hkx X Y
set_option maxRecDepth 4000 in
theorem c_Mod_rests {K : KK} (hK : kOK K) (x1 : Int32) (x2 : Int32) (x3 : Int32) (X : HI) (Y : HL) : CT K y_Mod_rests prog_8_method_65_code 6 (some .int) rm_Mod_rests [.ref 70, .int x1, .int x2, .int x3] X Y (f_Mod_rests x1 x2 x3 X Y) := by
  refine ct_of hK (L := [some (.ref 70), some (.int x1), some (.int x2), some (.int x3), none, none]) (by decide) ⟨rfl, ⟨rfl, ⟨rfl, ⟨rfl, trivial⟩⟩⟩⟩ (Nat.le_of_ble_eq_true rfl) ?_
  unfold f_Mod_rests
  refine j_aload_n (i := 0) (x := 70) (q := 1) d_Mod_rests_0 rfl rfl rfl ?_
  refine j_iconst (v := 0) (q := 2) d_Mod_rests_1 (by decide) rfl ?_
  refine j_putI (q := 5) d_Mod_rests_2 fp_Mod_56 fw_70_0 rfl (fun X1 => ?_)
  refine j_aload_n (i := 0) (x := 70) (q := 6) d_Mod_rests_5 rfl rfl rfl ?_
  refine j_iload_n (i := 1) (x := x1) (q := 7) d_Mod_rests_6 rfl rfl rfl ?_
  refine j_callVi (a := 70) (S := []) (q := 10) [.int x1] d_Mod_rests_7 mw_Mod_noGate mv_Mod_noGate ml_Mod_172 ob_70 rfl rfl (c_Mod_noGate hK x1 X1 Y) ⟨⟨rfl, rfl⟩, ⟨Nat.le_of_ble_eq_true rfl, Nat.le_of_ble_eq_true rfl⟩, ⟨Nat.le_refl 0, Nat.le_refl 0⟩⟩ (Nat.le_of_ble_eq_true rfl) rfl (fun r4 X2 Y3 => ?_)
  refine j_if_ne (t := 21) (q := 13) d_Mod_rests_10 (by decide) rfl ?_ ?_
  · refine j_iconst (v := -1) (q := 22) d_Mod_rests_21 (by decide) rfl ?_
    exact j_iret d_Mod_rests_22
  · refine j_aload_n (i := 0) (x := 70) (q := 14) d_Mod_rests_13 rfl rfl rfl ?_
    refine j_iload_n (i := 2) (x := x2) (q := 15) d_Mod_rests_14 rfl rfl rfl ?_
    refine j_callVi (a := 70) (S := []) (q := 18) [.int x2] d_Mod_rests_15 mw_Mod_noGate mv_Mod_noGate ml_Mod_172 ob_70 rfl rfl (c_Mod_noGate hK x2 X2 Y3) ⟨⟨rfl, rfl⟩, ⟨Nat.le_of_ble_eq_true rfl, Nat.le_of_ble_eq_true rfl⟩, ⟨Nat.le_refl 0, Nat.le_refl 0⟩⟩ (Nat.le_of_ble_eq_true rfl) rfl (fun r7 X5 Y6 => ?_)
    refine j_if_eq (t := 23) (q := 21) d_Mod_rests_18 (by decide) rfl ?_ ?_
    · refine j_iload_n (i := 1) (x := x1) (q := 24) d_Mod_rests_23 rfl rfl rfl ?_
      refine j_iload_n (i := 2) (x := x2) (q := 25) d_Mod_rests_24 rfl rfl rfl ?_
      refine j_icmp_eq (t := 38) (q := 28) d_Mod_rests_25 (by decide) rfl ?_ ?_
      · refine j_bipush (v := -2) (q := 40) d_Mod_rests_38 (by decide +kernel) rfl ?_
        exact j_iret d_Mod_rests_40
      · refine j_iload_n (i := 3) (x := x3) (q := 29) d_Mod_rests_28 rfl rfl rfl ?_
        refine j_i2l (q := 30) d_Mod_rests_29 rfl ?_
        refine j_lconst (v := 0) (q := 31) d_Mod_rests_30 (by decide) rfl ?_
        refine j_lconst (v := 1) (q := 32) d_Mod_rests_31 (by decide) rfl ?_
        refine j_callSi (S := []) (q := 35) [.long x3.toInt64, .long (0 : Int64), .long (1 : Int64)] d_Mod_rests_32 mw_Mod_in ms_Mod_in ml_Mod_63 rfl rfl (c_Mod_in hK (x3.toInt64) (0 : Int64) (1 : Int64) X5 Y6) ⟨⟨rfl, rfl⟩, ⟨Nat.le_of_ble_eq_true rfl, Nat.le_of_ble_eq_true rfl⟩, ⟨Nat.le_refl 0, Nat.le_refl 0⟩⟩ (Nat.le_of_ble_eq_true rfl) rfl (fun r10 X8 Y9 => ?_)
        refine j_if_ne (t := 41) (q := 38) d_Mod_rests_35 (by decide) rfl ?_ ?_
        · refine j_iconst (v := 0) (q := 42) d_Mod_rests_41 (by decide) rfl ?_
          refine j_istore (i := 4) (L' := [some (.ref 70), some (.int x1), some (.int x2), some (.int x3), some (.int (0 : Int32)), none]) (q := 44) d_Mod_rests_42 (by decide) rfl rfl rfl ?_
          refine j_sub (L' := [some (.ref 70), some (.int x1), some (.int x2), some (.int x3), some (.int (0 : Int32)), none]) ⟨rfl, ⟨rfl, ⟨rfl, ⟨rfl, ⟨rfl, trivial⟩⟩⟩⟩⟩ ?_
          refine jl_Mod_rests_44 hK x1 x2 x3 _ (fun w27 X28 Y29 => ?_) 256 (0 : Int32) X8 Y9
          refine j_aload_n (i := 0) (x := 70) (q := 142) d_Mod_rests_141 rfl rfl rfl ?_
          refine j_iconst (v := 0) (q := 143) d_Mod_rests_142 (by decide) rfl ?_
          refine j_putI (q := 146) d_Mod_rests_143 fp_Mod_248 fw_70_27 rfl (fun X30 => ?_)
          refine j_aload_n (i := 0) (x := 70) (q := 147) d_Mod_rests_146 rfl rfl rfl ?_
          refine j_bipush (v := -9) (q := 149) d_Mod_rests_147 (by decide +kernel) rfl ?_
          refine j_putI (q := 152) d_Mod_rests_149 fp_Mod_251 fw_70_28 rfl (fun X31 => ?_)
          refine j_iconst (v := 0) (q := 153) d_Mod_rests_152 (by decide) rfl ?_
          refine j_istore (i := 4) (L' := [some (.ref 70), none, none, some (.int x3), some (.int (0 : Int32)), none]) (q := 155) d_Mod_rests_153 (by decide) rfl rfl rfl ?_
          refine j_sub (L' := [some (.ref 70), none, none, some (.int x3), some (.int (0 : Int32)), none]) ⟨rfl, ⟨rfl, ⟨rfl, trivial⟩⟩⟩ ?_
          refine jl_Mod_rests_155 hK x3 _ (fun w34 X35 Y36 => ?_) 256 (0 : Int32) X31 Y29
          refine j_iload_n (i := 3) (x := x3) (q := 279) d_Mod_rests_278 rfl rfl rfl ?_
          refine j_if_ne (t := 289) (q := 282) d_Mod_rests_279 (by decide) rfl ?_ ?_
          · refine j_aload_n (i := 0) (x := 70) (q := 290) d_Mod_rests_289 rfl rfl rfl ?_
            refine j_get (v := .int (X35 70 28)) (q := 293) d_Mod_rests_290 fk_Mod_251 fv_70_28 rfl ?_
            exact j_iret d_Mod_rests_293
          · refine j_aload_n (i := 0) (x := 70) (q := 283) d_Mod_rests_282 rfl rfl rfl ?_
            refine j_get (v := .int (X35 70 27)) (q := 286) d_Mod_rests_283 fk_Mod_248 fv_70_27 rfl ?_
            refine j_goto (q := 293) d_Mod_rests_286 (by decide) ?_
            exact j_iret d_Mod_rests_293
        · refine j_bipush (v := -2) (q := 40) d_Mod_rests_38 (by decide +kernel) rfl ?_
          exact j_iret d_Mod_rests_40
    · refine j_iconst (v := -1) (q := 22) d_Mod_rests_21 (by decide) rfl ?_
      exact j_iret d_Mod_rests_22
def b_Mod_clouds_102 (kc : Int32 → HI → HL → Option Out) (kx : Int32 → HI → HL → Option Out) (x1 : Int32) (x2 : Int32) (x3 : Int32) (x4 : Int32) (x5 : Int32) (x6 : Int32) (x7 : Int32) (x8 : Int32) (s0 : Int32) (X : HI) (Y : HL) : Option Out :=
    bv (f_Mod_goDay 77 s0 X Y) (fun X19 Y20 =>
    (kc (x8 + (1 : Int32)) X19 Y20))
def l_Mod_clouds_76 (x1 : Int32) (x2 : Int32) (x3 : Int32) (x4 : Int32) (x5 : Int32) (x6 : Int32) (x7 : Int32) (kx : Int32 → HI → HL → Option Out) : Nat → Int32 → HI → HL → Option Out
  | 0, _, _, _ => none
  | n + 1, m8, X, Y =>
    (if x2 ≤ m8 then
    (kx m8 X Y)
    else
    bi (f_Mod_has x7 m8 X Y) (fun r18 X16 Y17 =>
    (if r18 = 0 then
    (b_Mod_clouds_102 (fun a8 A B => l_Mod_clouds_76 x1 x2 x3 x4 x5 x6 x7 kx n a8 A B) kx x1 x2 x3 x4 x5 x6 x7 m8 (1 : Int32) X16 Y17)
    else
    (b_Mod_clouds_102 (fun a8 A B => l_Mod_clouds_76 x1 x2 x3 x4 x5 x6 x7 kx n a8 A B) kx x1 x2 x3 x4 x5 x6 x7 m8 (0 : Int32) X16 Y17))))
def b_Mod_clouds_156 (kc : Int32 → Int32 → HI → HL → Option Out) (kx : Int32 → Int32 → HI → HL → Option Out) (x1 : Int32) (x2 : Int32) (x3 : Int32) (x4 : Int32) (x5 : Int32) (x7 : Int32) (s0 : Int32) (s1 : Int32) (X : HI) (Y : HL) : Option Out :=
    lt (s1 + s0) (fun v30 =>
    (kc v30 (x7 + (1 : Int32)) X Y))
def l_Mod_clouds_61 (x1 : Int32) (x2 : Int32) (x3 : Int32) (x4 : Int32) (x5 : Int32) (kx : Int32 → Int32 → HI → HL → Option Out) : Nat → Int32 → Int32 → HI → HL → Option Out
  | 0, _, _, _, _ => none
  | n + 1, m6, m7, X, Y =>
    (if ((1 : Int32) <<< (x2 &&& 31)) ≤ m7 then
    (kx m6 m7 X Y)
    else
    bv (f_Mod_begin X Y) (fun X14 Y15 =>
    (l_Mod_clouds_76 x1 x2 x3 x4 x5 m6 m7 (fun w21 X22 Y23 =>
    bi (f_Mod_many m7 X22 Y23) (fun r26 X24 Y25 =>
    bi (f_Mod_crustOf 77 x1 X24 Y25) (fun r29 X27 Y28 =>
    (if r29 < x3 then
    (b_Mod_clouds_156 (fun a6 a7 A B => l_Mod_clouds_61 x1 x2 x3 x4 x5 kx n a6 a7 A B) kx x1 x2 x3 x4 x5 m7 (0 : Int32) m6 X27 Y28)
    else
    bi (f_Mod_power x4 r26 X27 Y28) (fun r33 X31 Y32 =>
    bi (f_Mod_power ((10 : Int32) - x4) (x2 - r26) X31 Y32) (fun r36 X34 Y35 =>
    (b_Mod_clouds_156 (fun a6 a7 A B => l_Mod_clouds_61 x1 x2 x3 x4 x5 kx n a6 a7 A B) kx x1 x2 x3 x4 x5 m7 (r33 * r36) m6 X34 Y35))))))) 256 (0 : Int32) X14 Y15)))
def f_Mod_clouds (x1 : Int32) (x2 : Int32) (x3 : Int32) (x4 : Int32) (x5 : Int32) (X : HI) (Y : HL) : Option Out :=
    lh (up X 70 0 (0 : Int32)) (fun X1 =>
    bi (f_Mod_noPan x1 X1 Y) (fun r4 X2 Y3 =>
    (if r4 = 0 then
    bi (f_Mod_in (x2.toInt64) (1 : Int64) (6 : Int64) X2 Y3) (fun r7 X5 Y6 =>
    (if r7 = 0 then
    (rI (-2 : Int32) X5 Y6)
    else
    bi (f_Mod_in (x3.toInt64) (0 : Int64) (99 : Int64) X5 Y6) (fun r10 X8 Y9 =>
    (if r10 = 0 then
    (rI (-2 : Int32) X8 Y9)
    else
    bi (f_Mod_in (x4.toInt64) (0 : Int64) (10 : Int64) X8 Y9) (fun r13 X11 Y12 =>
    (if r13 = 0 then
    (rI (-2 : Int32) X11 Y12)
    else
    (l_Mod_clouds_61 x1 x2 x3 x4 x5 (fun w37 w38 X39 Y40 =>
    bi (f_Mod_power (10 : Int32) x2 X39 Y40) (fun r43 X41 Y42 =>
    bi (f_Mod_fraction w37 r43 x5 X41 Y42) (fun r46 X44 Y45 =>
    (rI r46 X44 Y45)))) 256 (0 : Int32) (0 : Int32) X11 Y12)))))))
    else
    (rI (-1 : Int32) X2 Y3))))
set_option maxRecDepth 4000 in
theorem jb_Mod_clouds_102 {K : KK} (hK : kOK K) (kc : Int32 → HI → HL → Option Out) (kx : Int32 → HI → HL → Option Out) (x1 : Int32) (x2 : Int32) (x3 : Int32) (x4 : Int32) (x5 : Int32) (x6 : Int32) (x7 : Int32) (x8 : Int32) (s0 : Int32) (hkc : ∀ (m8 : Int32) (X : HI) (Y : HL), JO K "BrinePansModel" prog_8_method_66_code 9 (some .int) rm_Mod_clouds 0 0 (MZ K) 76 [some (.ref 70), some (.int x1), some (.int x2), some (.int x3), some (.int x4), some (.int x5), some (.int x6), some (.int x7), some (.int m8)] [] X Y (kc m8 X Y)) (hkx : ∀ (m8 : Int32) (X : HI) (Y : HL), JO K "BrinePansModel" prog_8_method_66_code 9 (some .int) rm_Mod_clouds 0 0 (MZ K) 111 [some (.ref 70), some (.int x1), some (.int x2), some (.int x3), some (.int x4), some (.int x5), some (.int x6), some (.int x7), none] [] X Y (kx m8 X Y)) (X : HI) (Y : HL) : JO K "BrinePansModel" prog_8_method_66_code 9 (some .int) rm_Mod_clouds 0 0 (MZ K) 102 [some (.ref 70), some (.int x1), some (.int x2), some (.int x3), some (.int x4), some (.int x5), some (.int x6), some (.int x7), some (.int x8)] [.int s0, .ref 77, .ref 70] X Y (b_Mod_clouds_102 kc kx x1 x2 x3 x4 x5 x6 x7 x8 s0 X Y) := by
  unfold b_Mod_clouds_102
  refine j_callVv (a := 70) (S := []) (q := 105) [.ref 77, .int s0] d_Mod_clouds_102 mw_Mod_goDay mv_Mod_goDay ml_Mod_138 ob_70 rfl rfl (c_Mod_goDay hK 77 ai_77 s0 X Y) ⟨⟨rfl, rfl⟩, ⟨Nat.le_of_ble_eq_true rfl, Nat.le_of_ble_eq_true rfl⟩, ⟨Nat.le_refl 0, Nat.le_refl 0⟩⟩ (Nat.le_of_ble_eq_true rfl) rfl (fun X19 Y20 => ?_)
  refine j_iinc (i := 8) (x := x8) (d := 1) (L' := [some (.ref 70), some (.int x1), some (.int x2), some (.int x3), some (.int x4), some (.int x5), some (.int x6), some (.int x7), some (.int (x8 + (1 : Int32)))]) (q := 108) d_Mod_clouds_105 rfl (by decide) (by decide) rfl rfl rfl ?_
  refine j_goto (q := 76) d_Mod_clouds_108 (by decide) ?_
  refine j_sub (L' := [some (.ref 70), some (.int x1), some (.int x2), some (.int x3), some (.int x4), some (.int x5), some (.int x6), some (.int x7), some (.int (x8 + (1 : Int32)))]) ⟨rfl, ⟨rfl, ⟨rfl, ⟨rfl, ⟨rfl, ⟨rfl, ⟨rfl, ⟨rfl, ⟨rfl, trivial⟩⟩⟩⟩⟩⟩⟩⟩⟩ ?_
  exact hkc (x8 + (1 : Int32)) X19 Y20
set_option maxRecDepth 4000 in
theorem jl_Mod_clouds_76 {K : KK} (hK : kOK K) (x1 : Int32) (x2 : Int32) (x3 : Int32) (x4 : Int32) (x5 : Int32) (x6 : Int32) (x7 : Int32) (kx : Int32 → HI → HL → Option Out) (hkx : ∀ (m8 : Int32) (X : HI) (Y : HL), JO K "BrinePansModel" prog_8_method_66_code 9 (some .int) rm_Mod_clouds 0 0 (MZ K) 111 [some (.ref 70), some (.int x1), some (.int x2), some (.int x3), some (.int x4), some (.int x5), some (.int x6), some (.int x7), none] [] X Y (kx m8 X Y)) : ∀ (n : Nat) (m8 : Int32) (X : HI) (Y : HL), JO K "BrinePansModel" prog_8_method_66_code 9 (some .int) rm_Mod_clouds 0 0 (MZ K) 76 [some (.ref 70), some (.int x1), some (.int x2), some (.int x3), some (.int x4), some (.int x5), some (.int x6), some (.int x7), some (.int m8)] [] X Y (l_Mod_clouds_76 x1 x2 x3 x4 x5 x6 x7 kx n m8 X Y) := by
  intro n
  induction n with
  | zero =>
    intro m8 X Y
    rw [l_Mod_clouds_76]
    exact j_none
  | succ n ih =>
    intro m8 X Y
    rw [l_Mod_clouds_76]
    refine j_iload (i := 8) (x := m8) (q := 78) d_Mod_clouds_76 rfl rfl ?_
    refine j_iload_n (i := 2) (x := x2) (q := 79) d_Mod_clouds_78 rfl rfl rfl ?_
    refine j_icmp_ge (t := 111) (q := 82) d_Mod_clouds_79 (by decide) rfl ?_ ?_
    · refine j_sub (L' := [some (.ref 70), some (.int x1), some (.int x2), some (.int x3), some (.int x4), some (.int x5), some (.int x6), some (.int x7), none]) ⟨rfl, ⟨rfl, ⟨rfl, ⟨rfl, ⟨rfl, ⟨rfl, ⟨rfl, ⟨rfl, trivial⟩⟩⟩⟩⟩⟩⟩⟩ ?_
      exact hkx m8 X Y
    · refine j_aload_n (i := 0) (x := 70) (q := 83) d_Mod_clouds_82 rfl rfl rfl ?_
      refine j_aload_n (i := 0) (x := 70) (q := 84) d_Mod_clouds_83 rfl rfl rfl ?_
      refine j_get (v := .ref 77) (q := 87) d_Mod_clouds_84 fk_Mod_28 fv_70_13 rfl ?_
      refine j_iload (i := 7) (x := x7) (q := 89) d_Mod_clouds_87 rfl rfl ?_
      refine j_iload (i := 8) (x := m8) (q := 91) d_Mod_clouds_89 rfl rfl ?_
      refine j_callSi (S := [.ref 77, .ref 70]) (q := 94) [.int x7, .int m8] d_Mod_clouds_91 mw_Mod_has ms_Mod_has ml_Mod_124 rfl rfl (c_Mod_has hK x7 m8 X Y) ⟨⟨rfl, rfl⟩, ⟨Nat.le_of_ble_eq_true rfl, Nat.le_of_ble_eq_true rfl⟩, ⟨Nat.le_refl 0, Nat.le_refl 0⟩⟩ (Nat.le_of_ble_eq_true rfl) rfl (fun r18 X16 Y17 => ?_)
      refine j_if_ne (t := 101) (q := 97) d_Mod_clouds_94 (by decide) rfl ?_ ?_
      · refine j_iconst (v := 0) (q := 102) d_Mod_clouds_101 (by decide) rfl ?_
        refine j_sub (L' := [some (.ref 70), some (.int x1), some (.int x2), some (.int x3), some (.int x4), some (.int x5), some (.int x6), some (.int x7), some (.int m8)]) ⟨rfl, ⟨rfl, ⟨rfl, ⟨rfl, ⟨rfl, ⟨rfl, ⟨rfl, ⟨rfl, ⟨rfl, trivial⟩⟩⟩⟩⟩⟩⟩⟩⟩ ?_
        exact jb_Mod_clouds_102 hK (fun a8 A B => l_Mod_clouds_76 x1 x2 x3 x4 x5 x6 x7 kx n a8 A B) kx x1 x2 x3 x4 x5 x6 x7 m8 (0 : Int32) ih hkx X16 Y17
      · refine j_iconst (v := 1) (q := 98) d_Mod_clouds_97 (by decide) rfl ?_
        refine j_goto (q := 102) d_Mod_clouds_98 (by decide) ?_
        refine j_sub (L' := [some (.ref 70), some (.int x1), some (.int x2), some (.int x3), some (.int x4), some (.int x5), some (.int x6), some (.int x7), some (.int m8)]) ⟨rfl, ⟨rfl, ⟨rfl, ⟨rfl, ⟨rfl, ⟨rfl, ⟨rfl, ⟨rfl, ⟨rfl, trivial⟩⟩⟩⟩⟩⟩⟩⟩⟩ ?_
        exact jb_Mod_clouds_102 hK (fun a8 A B => l_Mod_clouds_76 x1 x2 x3 x4 x5 x6 x7 kx n a8 A B) kx x1 x2 x3 x4 x5 x6 x7 m8 (1 : Int32) ih hkx X16 Y17
set_option maxRecDepth 4000 in
theorem jb_Mod_clouds_156 {K : KK} (hK : kOK K) (kc : Int32 → Int32 → HI → HL → Option Out) (kx : Int32 → Int32 → HI → HL → Option Out) (x1 : Int32) (x2 : Int32) (x3 : Int32) (x4 : Int32) (x5 : Int32) (x7 : Int32) (s0 : Int32) (s1 : Int32) (hkc : ∀ (m6 : Int32) (m7 : Int32) (X : HI) (Y : HL), JO K "BrinePansModel" prog_8_method_66_code 9 (some .int) rm_Mod_clouds 0 0 (MZ K) 61 [some (.ref 70), some (.int x1), some (.int x2), some (.int x3), some (.int x4), some (.int x5), some (.int m6), some (.int m7), none] [] X Y (kc m6 m7 X Y)) (hkx : ∀ (m6 : Int32) (m7 : Int32) (X : HI) (Y : HL), JO K "BrinePansModel" prog_8_method_66_code 9 (some .int) rm_Mod_clouds 0 0 (MZ K) 165 [none, none, some (.int x2), none, none, some (.int x5), some (.int m6), none, none] [] X Y (kx m6 m7 X Y)) (X : HI) (Y : HL) : JO K "BrinePansModel" prog_8_method_66_code 9 (some .int) rm_Mod_clouds 0 0 (MZ K) 156 [some (.ref 70), some (.int x1), some (.int x2), some (.int x3), some (.int x4), some (.int x5), none, some (.int x7), none] [.int s0, .int s1] X Y (b_Mod_clouds_156 kc kx x1 x2 x3 x4 x5 x7 s0 s1 X Y) := by
  unfold b_Mod_clouds_156
  refine j_iadd (q := 157) d_Mod_clouds_156 rfl ?_
  refine j_lt (fun v30 => ?_)
  refine j_istore (i := 6) (L' := [some (.ref 70), some (.int x1), some (.int x2), some (.int x3), some (.int x4), some (.int x5), some (.int v30), some (.int x7), none]) (q := 159) d_Mod_clouds_157 (by decide) rfl rfl rfl ?_
  refine j_iinc (i := 7) (x := x7) (d := 1) (L' := [some (.ref 70), some (.int x1), some (.int x2), some (.int x3), some (.int x4), some (.int x5), some (.int v30), some (.int (x7 + (1 : Int32))), none]) (q := 162) d_Mod_clouds_159 rfl (by decide) (by decide) rfl rfl rfl ?_
  refine j_goto (q := 61) d_Mod_clouds_162 (by decide) ?_
  refine j_sub (L' := [some (.ref 70), some (.int x1), some (.int x2), some (.int x3), some (.int x4), some (.int x5), some (.int v30), some (.int (x7 + (1 : Int32))), none]) ⟨rfl, ⟨rfl, ⟨rfl, ⟨rfl, ⟨rfl, ⟨rfl, ⟨rfl, ⟨rfl, trivial⟩⟩⟩⟩⟩⟩⟩⟩ ?_
  exact hkc v30 (x7 + (1 : Int32)) X Y
set_option maxRecDepth 4000 in
theorem jl_Mod_clouds_61 {K : KK} (hK : kOK K) (x1 : Int32) (x2 : Int32) (x3 : Int32) (x4 : Int32) (x5 : Int32) (kx : Int32 → Int32 → HI → HL → Option Out) (hkx : ∀ (m6 : Int32) (m7 : Int32) (X : HI) (Y : HL), JO K "BrinePansModel" prog_8_method_66_code 9 (some .int) rm_Mod_clouds 0 0 (MZ K) 165 [none, none, some (.int x2), none, none, some (.int x5), some (.int m6), none, none] [] X Y (kx m6 m7 X Y)) : ∀ (n : Nat) (m6 : Int32) (m7 : Int32) (X : HI) (Y : HL), JO K "BrinePansModel" prog_8_method_66_code 9 (some .int) rm_Mod_clouds 0 0 (MZ K) 61 [some (.ref 70), some (.int x1), some (.int x2), some (.int x3), some (.int x4), some (.int x5), some (.int m6), some (.int m7), none] [] X Y (l_Mod_clouds_61 x1 x2 x3 x4 x5 kx n m6 m7 X Y) := by
  intro n
  induction n with
  | zero =>
    intro m6 m7 X Y
    rw [l_Mod_clouds_61]
    exact j_none
  | succ n ih =>
    intro m6 m7 X Y
    rw [l_Mod_clouds_61]
    refine j_iload (i := 7) (x := m7) (q := 63) d_Mod_clouds_61 rfl rfl ?_
    refine j_iconst (v := 1) (q := 64) d_Mod_clouds_63 (by decide) rfl ?_
    refine j_iload_n (i := 2) (x := x2) (q := 65) d_Mod_clouds_64 rfl rfl rfl ?_
    refine j_ishl (q := 66) d_Mod_clouds_65 rfl ?_
    refine j_icmp_ge (t := 165) (q := 69) d_Mod_clouds_66 (by decide) rfl ?_ ?_
    · refine j_sub (L' := [none, none, some (.int x2), none, none, some (.int x5), some (.int m6), none, none]) ⟨rfl, ⟨rfl, ⟨rfl, trivial⟩⟩⟩ ?_
      exact hkx m6 m7 X Y
    · refine j_aload_n (i := 0) (x := 70) (q := 70) d_Mod_clouds_69 rfl rfl rfl ?_
      refine j_callVv (a := 70) (S := []) (q := 73) [] d_Mod_clouds_70 mw_Mod_begin mv_Mod_begin ml_Mod_182 ob_70 rfl rfl (c_Mod_begin hK X Y) ⟨⟨rfl, rfl⟩, ⟨Nat.le_of_ble_eq_true rfl, Nat.le_of_ble_eq_true rfl⟩, ⟨Nat.le_refl 0, Nat.le_refl 0⟩⟩ (Nat.le_of_ble_eq_true rfl) rfl (fun X14 Y15 => ?_)
      refine j_iconst (v := 0) (q := 74) d_Mod_clouds_73 (by decide) rfl ?_
      refine j_istore (i := 8) (L' := [some (.ref 70), some (.int x1), some (.int x2), some (.int x3), some (.int x4), some (.int x5), some (.int m6), some (.int m7), some (.int (0 : Int32))]) (q := 76) d_Mod_clouds_74 (by decide) rfl rfl rfl ?_
      refine j_sub (L' := [some (.ref 70), some (.int x1), some (.int x2), some (.int x3), some (.int x4), some (.int x5), some (.int m6), some (.int m7), some (.int (0 : Int32))]) ⟨rfl, ⟨rfl, ⟨rfl, ⟨rfl, ⟨rfl, ⟨rfl, ⟨rfl, ⟨rfl, ⟨rfl, trivial⟩⟩⟩⟩⟩⟩⟩⟩⟩ ?_
      refine jl_Mod_clouds_76 hK x1 x2 x3 x4 x5 m6 m7 _ (fun w21 X22 Y23 => ?_) 256 (0 : Int32) X14 Y15
      refine j_iload (i := 7) (x := m7) (q := 113) d_Mod_clouds_111 rfl rfl ?_
      refine j_callSi (S := []) (q := 116) [.int m7] d_Mod_clouds_113 mw_Mod_many ms_Mod_many ml_Mod_200 rfl rfl (c_Mod_many hK m7 X22 Y23) ⟨⟨rfl, rfl⟩, ⟨Nat.le_of_ble_eq_true rfl, Nat.le_of_ble_eq_true rfl⟩, ⟨Nat.le_refl 0, Nat.le_refl 0⟩⟩ (Nat.le_of_ble_eq_true rfl) rfl (fun r26 X24 Y25 => ?_)
      refine j_istore (i := 8) (L' := [some (.ref 70), some (.int x1), some (.int x2), some (.int x3), some (.int x4), some (.int x5), some (.int m6), some (.int m7), some (.int r26)]) (q := 118) d_Mod_clouds_116 (by decide) rfl rfl rfl ?_
      refine j_iload (i := 6) (x := m6) (q := 120) d_Mod_clouds_118 rfl rfl ?_
      refine j_aload_n (i := 0) (x := 70) (q := 121) d_Mod_clouds_120 rfl rfl rfl ?_
      refine j_get (v := .ref 77) (q := 124) d_Mod_clouds_121 fk_Mod_28 fv_70_13 rfl ?_
      refine j_iload_n (i := 1) (x := x1) (q := 125) d_Mod_clouds_124 rfl rfl rfl ?_
      refine j_callSi (S := [.int m6]) (q := 128) [.ref 77, .int x1] d_Mod_clouds_125 mw_Mod_crustOf ms_Mod_crustOf ml_Mod_110 rfl rfl (c_Mod_crustOf hK 77 ai_77 x1 X24 Y25) ⟨⟨rfl, rfl⟩, ⟨Nat.le_of_ble_eq_true rfl, Nat.le_of_ble_eq_true rfl⟩, ⟨Nat.le_refl 0, Nat.le_refl 0⟩⟩ (Nat.le_of_ble_eq_true rfl) rfl (fun r29 X27 Y28 => ?_)
      refine j_iload_n (i := 3) (x := x3) (q := 129) d_Mod_clouds_128 rfl rfl rfl ?_
      refine j_icmp_lt (t := 155) (q := 132) d_Mod_clouds_129 (by decide) rfl ?_ ?_
      · refine j_iconst (v := 0) (q := 156) d_Mod_clouds_155 (by decide) rfl ?_
        refine j_sub (L' := [some (.ref 70), some (.int x1), some (.int x2), some (.int x3), some (.int x4), some (.int x5), none, some (.int m7), none]) ⟨rfl, ⟨rfl, ⟨rfl, ⟨rfl, ⟨rfl, ⟨rfl, ⟨rfl, trivial⟩⟩⟩⟩⟩⟩⟩ ?_
        exact jb_Mod_clouds_156 hK (fun a6 a7 A B => l_Mod_clouds_61 x1 x2 x3 x4 x5 kx n a6 a7 A B) kx x1 x2 x3 x4 x5 m7 (0 : Int32) m6 ih hkx X27 Y28
      · refine j_iload (i := 4) (x := x4) (q := 134) d_Mod_clouds_132 rfl rfl ?_
        refine j_iload (i := 8) (x := r26) (q := 136) d_Mod_clouds_134 rfl rfl ?_
        refine j_callSi (S := [.int m6]) (q := 139) [.int x4, .int r26] d_Mod_clouds_136 mw_Mod_power ms_Mod_power ml_Mod_258 rfl rfl (c_Mod_power hK x4 r26 X27 Y28) ⟨⟨rfl, rfl⟩, ⟨Nat.le_of_ble_eq_true rfl, Nat.le_of_ble_eq_true rfl⟩, ⟨Nat.le_refl 0, Nat.le_refl 0⟩⟩ (Nat.le_of_ble_eq_true rfl) rfl (fun r33 X31 Y32 => ?_)
        refine j_bipush (v := 10) (q := 141) d_Mod_clouds_139 (by decide +kernel) rfl ?_
        refine j_iload (i := 4) (x := x4) (q := 143) d_Mod_clouds_141 rfl rfl ?_
        refine j_isub (q := 144) d_Mod_clouds_143 rfl ?_
        refine j_iload_n (i := 2) (x := x2) (q := 145) d_Mod_clouds_144 rfl rfl rfl ?_
        refine j_iload (i := 8) (x := r26) (q := 147) d_Mod_clouds_145 rfl rfl ?_
        refine j_isub (q := 148) d_Mod_clouds_147 rfl ?_
        refine j_callSi (S := [.int r33, .int m6]) (q := 151) [.int ((10 : Int32) - x4), .int (x2 - r26)] d_Mod_clouds_148 mw_Mod_power ms_Mod_power ml_Mod_258 rfl rfl (c_Mod_power hK ((10 : Int32) - x4) (x2 - r26) X31 Y32) ⟨⟨rfl, rfl⟩, ⟨Nat.le_of_ble_eq_true rfl, Nat.le_of_ble_eq_true rfl⟩, ⟨Nat.le_refl 0, Nat.le_refl 0⟩⟩ (Nat.le_of_ble_eq_true rfl) rfl (fun r36 X34 Y35 => ?_)
        refine j_imul (q := 152) d_Mod_clouds_151 rfl ?_
        refine j_goto (q := 156) d_Mod_clouds_152 (by decide) ?_
        refine j_sub (L' := [some (.ref 70), some (.int x1), some (.int x2), some (.int x3), some (.int x4), some (.int x5), none, some (.int m7), none]) ⟨rfl, ⟨rfl, ⟨rfl, ⟨rfl, ⟨rfl, ⟨rfl, ⟨rfl, trivial⟩⟩⟩⟩⟩⟩⟩ ?_
        exact jb_Mod_clouds_156 hK (fun a6 a7 A B => l_Mod_clouds_61 x1 x2 x3 x4 x5 kx n a6 a7 A B) kx x1 x2 x3 x4 x5 m7 (r33 * r36) m6 ih hkx X34 Y35
set_option maxRecDepth 4000 in
theorem c_Mod_clouds {K : KK} (hK : kOK K) (x1 : Int32) (x2 : Int32) (x3 : Int32) (x4 : Int32) (x5 : Int32) (X : HI) (Y : HL) : CT K y_Mod_clouds prog_8_method_66_code 9 (some .int) rm_Mod_clouds [.ref 70, .int x1, .int x2, .int x3, .int x4, .int x5] X Y (f_Mod_clouds x1 x2 x3 x4 x5 X Y) := by
  refine ct_of hK (L := [some (.ref 70), some (.int x1), some (.int x2), some (.int x3), some (.int x4), some (.int x5), none, none, none]) (by decide) ⟨rfl, ⟨rfl, ⟨rfl, ⟨rfl, ⟨rfl, ⟨rfl, trivial⟩⟩⟩⟩⟩⟩ (Nat.le_of_ble_eq_true rfl) ?_
  unfold f_Mod_clouds
  refine j_aload_n (i := 0) (x := 70) (q := 1) d_Mod_clouds_0 rfl rfl rfl ?_
  refine j_iconst (v := 0) (q := 2) d_Mod_clouds_1 (by decide) rfl ?_
  refine j_putI (q := 5) d_Mod_clouds_2 fp_Mod_56 fw_70_0 rfl (fun X1 => ?_)
  refine j_aload_n (i := 0) (x := 70) (q := 6) d_Mod_clouds_5 rfl rfl rfl ?_
  refine j_iload_n (i := 1) (x := x1) (q := 7) d_Mod_clouds_6 rfl rfl rfl ?_
  refine j_callVi (a := 70) (S := []) (q := 10) [.int x1] d_Mod_clouds_7 mw_Mod_noPan mv_Mod_noPan ml_Mod_159 ob_70 rfl rfl (c_Mod_noPan hK x1 X1 Y) ⟨⟨rfl, rfl⟩, ⟨Nat.le_of_ble_eq_true rfl, Nat.le_of_ble_eq_true rfl⟩, ⟨Nat.le_refl 0, Nat.le_refl 0⟩⟩ (Nat.le_of_ble_eq_true rfl) rfl (fun r4 X2 Y3 => ?_)
  refine j_if_eq (t := 15) (q := 13) d_Mod_clouds_10 (by decide) rfl ?_ ?_
  · refine j_iload_n (i := 2) (x := x2) (q := 16) d_Mod_clouds_15 rfl rfl rfl ?_
    refine j_i2l (q := 17) d_Mod_clouds_16 rfl ?_
    refine j_lconst (v := 1) (q := 18) d_Mod_clouds_17 (by decide) rfl ?_
    refine j_ldc2 (v := 6) (q := 21) d_Mod_clouds_18 (gw_t 879 (by decide +kernel) (by decide +kernel)) rfl ?_
    refine j_callSi (S := []) (q := 24) [.long x2.toInt64, .long (1 : Int64), .long (6 : Int64)] d_Mod_clouds_21 mw_Mod_in ms_Mod_in ml_Mod_63 rfl rfl (c_Mod_in hK (x2.toInt64) (1 : Int64) (6 : Int64) X2 Y3) ⟨⟨rfl, rfl⟩, ⟨Nat.le_of_ble_eq_true rfl, Nat.le_of_ble_eq_true rfl⟩, ⟨Nat.le_refl 0, Nat.le_refl 0⟩⟩ (Nat.le_of_ble_eq_true rfl) rfl (fun r7 X5 Y6 => ?_)
    refine j_if_eq (t := 52) (q := 27) d_Mod_clouds_24 (by decide) rfl ?_ ?_
    · refine j_bipush (v := -2) (q := 54) d_Mod_clouds_52 (by decide +kernel) rfl ?_
      exact j_iret d_Mod_clouds_54
    · refine j_iload_n (i := 3) (x := x3) (q := 28) d_Mod_clouds_27 rfl rfl rfl ?_
      refine j_i2l (q := 29) d_Mod_clouds_28 rfl ?_
      refine j_lconst (v := 0) (q := 30) d_Mod_clouds_29 (by decide) rfl ?_
      refine j_ldc2 (v := 99) (q := 33) d_Mod_clouds_30 (gw_t 858 (by decide +kernel) (by decide +kernel)) rfl ?_
      refine j_callSi (S := []) (q := 36) [.long x3.toInt64, .long (0 : Int64), .long (99 : Int64)] d_Mod_clouds_33 mw_Mod_in ms_Mod_in ml_Mod_63 rfl rfl (c_Mod_in hK (x3.toInt64) (0 : Int64) (99 : Int64) X5 Y6) ⟨⟨rfl, rfl⟩, ⟨Nat.le_of_ble_eq_true rfl, Nat.le_of_ble_eq_true rfl⟩, ⟨Nat.le_refl 0, Nat.le_refl 0⟩⟩ (Nat.le_of_ble_eq_true rfl) rfl (fun r10 X8 Y9 => ?_)
      refine j_if_eq (t := 52) (q := 39) d_Mod_clouds_36 (by decide) rfl ?_ ?_
      · refine j_bipush (v := -2) (q := 54) d_Mod_clouds_52 (by decide +kernel) rfl ?_
        exact j_iret d_Mod_clouds_54
      · refine j_iload (i := 4) (x := x4) (q := 41) d_Mod_clouds_39 rfl rfl ?_
        refine j_i2l (q := 42) d_Mod_clouds_41 rfl ?_
        refine j_lconst (v := 0) (q := 43) d_Mod_clouds_42 (by decide) rfl ?_
        refine j_ldc2 (v := 10) (q := 46) d_Mod_clouds_43 (gw_t 880 (by decide +kernel) (by decide +kernel)) rfl ?_
        refine j_callSi (S := []) (q := 49) [.long x4.toInt64, .long (0 : Int64), .long (10 : Int64)] d_Mod_clouds_46 mw_Mod_in ms_Mod_in ml_Mod_63 rfl rfl (c_Mod_in hK (x4.toInt64) (0 : Int64) (10 : Int64) X8 Y9) ⟨⟨rfl, rfl⟩, ⟨Nat.le_of_ble_eq_true rfl, Nat.le_of_ble_eq_true rfl⟩, ⟨Nat.le_refl 0, Nat.le_refl 0⟩⟩ (Nat.le_of_ble_eq_true rfl) rfl (fun r13 X11 Y12 => ?_)
        refine j_if_ne (t := 55) (q := 52) d_Mod_clouds_49 (by decide) rfl ?_ ?_
        · refine j_iconst (v := 0) (q := 56) d_Mod_clouds_55 (by decide) rfl ?_
          refine j_istore (i := 6) (L' := [some (.ref 70), some (.int x1), some (.int x2), some (.int x3), some (.int x4), some (.int x5), some (.int (0 : Int32)), none, none]) (q := 58) d_Mod_clouds_56 (by decide) rfl rfl rfl ?_
          refine j_iconst (v := 0) (q := 59) d_Mod_clouds_58 (by decide) rfl ?_
          refine j_istore (i := 7) (L' := [some (.ref 70), some (.int x1), some (.int x2), some (.int x3), some (.int x4), some (.int x5), some (.int (0 : Int32)), some (.int (0 : Int32)), none]) (q := 61) d_Mod_clouds_59 (by decide) rfl rfl rfl ?_
          refine j_sub (L' := [some (.ref 70), some (.int x1), some (.int x2), some (.int x3), some (.int x4), some (.int x5), some (.int (0 : Int32)), some (.int (0 : Int32)), none]) ⟨rfl, ⟨rfl, ⟨rfl, ⟨rfl, ⟨rfl, ⟨rfl, ⟨rfl, ⟨rfl, trivial⟩⟩⟩⟩⟩⟩⟩⟩ ?_
          refine jl_Mod_clouds_61 hK x1 x2 x3 x4 x5 _ (fun w37 w38 X39 Y40 => ?_) 256 (0 : Int32) (0 : Int32) X11 Y12
          refine j_iload (i := 6) (x := w37) (q := 167) d_Mod_clouds_165 rfl rfl ?_
          refine j_bipush (v := 10) (q := 169) d_Mod_clouds_167 (by decide +kernel) rfl ?_
          refine j_iload_n (i := 2) (x := x2) (q := 170) d_Mod_clouds_169 rfl rfl rfl ?_
          refine j_callSi (S := [.int w37]) (q := 173) [.int (10 : Int32), .int x2] d_Mod_clouds_170 mw_Mod_power ms_Mod_power ml_Mod_258 rfl rfl (c_Mod_power hK (10 : Int32) x2 X39 Y40) ⟨⟨rfl, rfl⟩, ⟨Nat.le_of_ble_eq_true rfl, Nat.le_of_ble_eq_true rfl⟩, ⟨Nat.le_refl 0, Nat.le_refl 0⟩⟩ (Nat.le_of_ble_eq_true rfl) rfl (fun r43 X41 Y42 => ?_)
          refine j_iload (i := 5) (x := x5) (q := 175) d_Mod_clouds_173 rfl rfl ?_
          refine j_callSi (S := []) (q := 178) [.int w37, .int r43, .int x5] d_Mod_clouds_175 mw_Mod_fraction ms_Mod_fraction ml_Mod_232 rfl rfl (c_Mod_fraction hK w37 r43 x5 X41 Y42) ⟨⟨rfl, rfl⟩, ⟨Nat.le_of_ble_eq_true rfl, Nat.le_of_ble_eq_true rfl⟩, ⟨Nat.le_refl 0, Nat.le_refl 0⟩⟩ (Nat.le_of_ble_eq_true rfl) rfl (fun r46 X44 Y45 => ?_)
          exact j_iret d_Mod_clouds_178
        · refine j_bipush (v := -2) (q := 54) d_Mod_clouds_52 (by decide +kernel) rfl ?_
          exact j_iret d_Mod_clouds_54
  · refine j_iconst (v := -1) (q := 14) d_Mod_clouds_13 (by decide) rfl ?_
    exact j_iret d_Mod_clouds_14
def f_Mod_seed (x1 : Int64) (X : HI) (Y : HL) : Option Out :=
    lh (up X 70 0 (0 : Int32)) (fun X1 =>
    ltl (Y 70) (fun v2 =>
    lhY (upY Y 70 x1) (fun Y3 =>
    (rL v2 X1 Y3))))
set_option maxRecDepth 4000 in
theorem c_Mod_seed {K : KK} (hK : kOK K) (x1 : Int64) (X : HI) (Y : HL) : CT K y_Mod_seed prog_8_method_67_code 5 (some .long) rm_Mod_seed [.ref 70, .long x1] X Y (f_Mod_seed x1 X Y) := by
  refine ct_of hK (L := [some (.ref 70), some (.long x1), none, none, none]) (by decide) ⟨rfl, ⟨rfl, trivial⟩⟩ (Nat.le_of_ble_eq_true rfl) ?_
  unfold f_Mod_seed
  refine j_aload_n (i := 0) (x := 70) (q := 1) d_Mod_seed_0 rfl rfl rfl ?_
  refine j_iconst (v := 0) (q := 2) d_Mod_seed_1 (by decide) rfl ?_
  refine j_putI (q := 5) d_Mod_seed_2 fp_Mod_56 fw_70_0 rfl (fun X1 => ?_)
  refine j_aload_n (i := 0) (x := 70) (q := 6) d_Mod_seed_5 rfl rfl rfl ?_
  refine j_get (v := .long (Y 70)) (q := 9) d_Mod_seed_6 fk_Mod_261 fv_70_22 rfl ?_
  refine j_ltl (fun v2 => ?_)
  refine j_lstore_n (i := 3) (L' := [some (.ref 70), some (.long x1), none, some (.long v2), none]) (q := 10) d_Mod_seed_9 rfl (by decide) rfl rfl rfl ?_
  refine j_aload_n (i := 0) (x := 70) (q := 11) d_Mod_seed_10 rfl rfl rfl ?_
  refine j_lload_n (i := 1) (x := x1) (q := 12) d_Mod_seed_11 rfl rfl rfl ?_
  refine j_putL (q := 15) d_Mod_seed_12 fp_Mod_261 fwl_70 rfl (fun Y3 => ?_)
  refine j_lload_n (i := 3) (x := v2) (q := 16) d_Mod_seed_15 rfl rfl rfl ?_
  exact j_lret d_Mod_seed_16
def b_Mod_years_113 (kc : Int32 → Int32 → HI → HL → Option Out) (kx : Int32 → Int32 → HI → HL → Option Out) (x1 : Int32) (x2 : Int32) (x3 : Int32) (s0 : Int32) (X : HI) (Y : HL) : Option Out :=
    bi (f_Mod_does s0 X Y) (fun r11 X9 Y10 =>
    bi (f_Mod_crustOfAll 77 X9 Y10) (fun r14 X12 Y13 =>
    lt (x2 + r14) (fun v15 =>
    (kc v15 (x3 + (1 : Int32)) X12 Y13))))
def l_Mod_years_28 (x1 : Int32) (kx : Int32 → Int32 → HI → HL → Option Out) : Nat → Int32 → Int32 → HI → HL → Option Out
  | 0, _, _, _, _ => none
  | n + 1, m2, m3, X, Y =>
    (if x1 ≤ m3 then
    (kx m2 m3 X Y)
    else
    lhY (upY Y 70 (((Y 70) * (6364136223846793005 : Int64)) + (1442695040888963407 : Int64))) (fun Y7 =>
    gd (nzl (24 : Int64)) (
    lt ((((Y7 70).toUInt64 >>> ((33 : Int32).toInt64.toUInt64 &&& Int64.toUInt64 63)).toInt64) - (((Y7 70).toUInt64 >>> ((33 : Int32).toInt64.toUInt64 &&& Int64.toUInt64 63)).toInt64) / (24 : Int64) * (24 : Int64)).toInt32 (fun v8 =>
    (if (5 : Int32) ≤ v8 then
    (if (10 : Int32) ≤ v8 then
    (if (12 : Int32) ≤ v8 then
    (b_Mod_years_113 (fun a2 a3 A B => l_Mod_years_28 x1 kx n a2 a3 A B) kx x1 m2 m3 (0 : Int32) X Y7)
    else
    (b_Mod_years_113 (fun a2 a3 A B => l_Mod_years_28 x1 kx n a2 a3 A B) kx x1 m2 m3 (103 : Int32) X Y7))
    else
    (b_Mod_years_113 (fun a2 a3 A B => l_Mod_years_28 x1 kx n a2 a3 A B) kx x1 m2 m3 ((201 : Int32) + ((10 : Int32) * (v8 - (5 : Int32)))) X Y7))
    else
    (b_Mod_years_113 (fun a2 a3 A B => l_Mod_years_28 x1 kx n a2 a3 A B) kx x1 m2 m3 ((300 : Int32) + v8) X Y7))))))
def f_Mod_years (x1 : Int32) (X : HI) (Y : HL) : Option Out :=
    lh (up X 70 0 (0 : Int32)) (fun X1 =>
    bi (f_Mod_in (x1.toInt64) (1 : Int64) (30 : Int64) X1 Y) (fun r4 X2 Y3 =>
    (if r4 = 0 then
    (rI (-2 : Int32) X2 Y3)
    else
    bv (f_Mod_begin X2 Y3) (fun X5 Y6 =>
    (l_Mod_years_28 x1 (fun w16 w17 X18 Y19 =>
    (rI w16 X18 Y19)) 256 (0 : Int32) (0 : Int32) X5 Y6)))))
set_option maxRecDepth 4000 in
theorem jb_Mod_years_113 {K : KK} (hK : kOK K) (kc : Int32 → Int32 → HI → HL → Option Out) (kx : Int32 → Int32 → HI → HL → Option Out) (x1 : Int32) (x2 : Int32) (x3 : Int32) (s0 : Int32) (hkc : ∀ (m2 : Int32) (m3 : Int32) (X : HI) (Y : HL), JO K "BrinePansModel" prog_8_method_68_code 5 (some .int) rm_Mod_years 0 0 (MZ K) 28 [some (.ref 70), some (.int x1), some (.int m2), some (.int m3), none] [] X Y (kc m2 m3 X Y)) (hkx : ∀ (m2 : Int32) (m3 : Int32) (X : HI) (Y : HL), JO K "BrinePansModel" prog_8_method_68_code 5 (some .int) rm_Mod_years 0 0 (MZ K) 134 [none, none, some (.int m2), none, none] [] X Y (kx m2 m3 X Y)) (X : HI) (Y : HL) : JO K "BrinePansModel" prog_8_method_68_code 5 (some .int) rm_Mod_years 0 0 (MZ K) 113 [some (.ref 70), some (.int x1), some (.int x2), some (.int x3), none] [.int s0, .ref 70] X Y (b_Mod_years_113 kc kx x1 x2 x3 s0 X Y) := by
  unfold b_Mod_years_113
  refine j_callVi (a := 70) (S := []) (q := 116) [.int s0] d_Mod_years_113 mw_Mod_does mv_Mod_does ml_Mod_223 ob_70 rfl rfl (c_Mod_does hK s0 X Y) ⟨⟨rfl, rfl⟩, ⟨Nat.le_of_ble_eq_true rfl, Nat.le_of_ble_eq_true rfl⟩, ⟨Nat.le_refl 0, Nat.le_refl 0⟩⟩ (Nat.le_of_ble_eq_true rfl) rfl (fun r11 X9 Y10 => ?_)
  refine j_pop (q := 117) d_Mod_years_116 rfl rfl ?_
  refine j_iload_n (i := 2) (x := x2) (q := 118) d_Mod_years_117 rfl rfl rfl ?_
  refine j_aload_n (i := 0) (x := 70) (q := 119) d_Mod_years_118 rfl rfl rfl ?_
  refine j_aload_n (i := 0) (x := 70) (q := 120) d_Mod_years_119 rfl rfl rfl ?_
  refine j_get (v := .ref 77) (q := 123) d_Mod_years_120 fk_Mod_28 fv_70_13 rfl ?_
  refine j_callVi (a := 70) (S := [.int x2]) (q := 126) [.ref 77] d_Mod_years_123 mw_Mod_crustOfAll mv_Mod_crustOfAll ml_Mod_150 ob_70 rfl rfl (c_Mod_crustOfAll hK 77 ai_77 X9 Y10) ⟨⟨rfl, rfl⟩, ⟨Nat.le_of_ble_eq_true rfl, Nat.le_of_ble_eq_true rfl⟩, ⟨Nat.le_refl 0, Nat.le_refl 0⟩⟩ (Nat.le_of_ble_eq_true rfl) rfl (fun r14 X12 Y13 => ?_)
  refine j_iadd (q := 127) d_Mod_years_126 rfl ?_
  refine j_lt (fun v15 => ?_)
  refine j_istore_n (i := 2) (L' := [some (.ref 70), some (.int x1), some (.int v15), some (.int x3), none]) (q := 128) d_Mod_years_127 rfl (by decide) rfl rfl rfl ?_
  refine j_iinc (i := 3) (x := x3) (d := 1) (L' := [some (.ref 70), some (.int x1), some (.int v15), some (.int (x3 + (1 : Int32))), none]) (q := 131) d_Mod_years_128 rfl (by decide) (by decide) rfl rfl rfl ?_
  refine j_goto (q := 28) d_Mod_years_131 (by decide) ?_
  refine j_sub (L' := [some (.ref 70), some (.int x1), some (.int v15), some (.int (x3 + (1 : Int32))), none]) ⟨rfl, ⟨rfl, ⟨rfl, ⟨rfl, trivial⟩⟩⟩⟩ ?_
  exact hkc v15 (x3 + (1 : Int32)) X12 Y13
set_option maxRecDepth 4000 in
theorem jl_Mod_years_28 {K : KK} (hK : kOK K) (x1 : Int32) (kx : Int32 → Int32 → HI → HL → Option Out) (hkx : ∀ (m2 : Int32) (m3 : Int32) (X : HI) (Y : HL), JO K "BrinePansModel" prog_8_method_68_code 5 (some .int) rm_Mod_years 0 0 (MZ K) 134 [none, none, some (.int m2), none, none] [] X Y (kx m2 m3 X Y)) : ∀ (n : Nat) (m2 : Int32) (m3 : Int32) (X : HI) (Y : HL), JO K "BrinePansModel" prog_8_method_68_code 5 (some .int) rm_Mod_years 0 0 (MZ K) 28 [some (.ref 70), some (.int x1), some (.int m2), some (.int m3), none] [] X Y (l_Mod_years_28 x1 kx n m2 m3 X Y) := by
  intro n
  induction n with
  | zero =>
    intro m2 m3 X Y
    rw [l_Mod_years_28]
    exact j_none
  | succ n ih =>
    intro m2 m3 X Y
    rw [l_Mod_years_28]
    refine j_iload_n (i := 3) (x := m3) (q := 29) d_Mod_years_28 rfl rfl rfl ?_
    refine j_iload_n (i := 1) (x := x1) (q := 30) d_Mod_years_29 rfl rfl rfl ?_
    refine j_icmp_ge (t := 134) (q := 33) d_Mod_years_30 (by decide) rfl ?_ ?_
    · refine j_sub (L' := [none, none, some (.int m2), none, none]) ⟨rfl, trivial⟩ ?_
      exact hkx m2 m3 X Y
    · refine j_aload_n (i := 0) (x := 70) (q := 34) d_Mod_years_33 rfl rfl rfl ?_
      refine j_aload_n (i := 0) (x := 70) (q := 35) d_Mod_years_34 rfl rfl rfl ?_
      refine j_get (v := .long (Y 70)) (q := 38) d_Mod_years_35 fk_Mod_261 fv_70_22 rfl ?_
      refine j_ldc2 (v := 6364136223846793005) (q := 41) d_Mod_years_38 (gw_t 892 (by decide +kernel) (by decide +kernel)) rfl ?_
      refine j_lmul (q := 42) d_Mod_years_41 rfl ?_
      refine j_ldc2 (v := 1442695040888963407) (q := 45) d_Mod_years_42 (gw_t 893 (by decide +kernel) (by decide +kernel)) rfl ?_
      refine j_ladd (q := 46) d_Mod_years_45 rfl ?_
      refine j_putL (q := 49) d_Mod_years_46 fp_Mod_261 fwl_70 rfl (fun Y7 => ?_)
      refine j_aload_n (i := 0) (x := 70) (q := 50) d_Mod_years_49 rfl rfl rfl ?_
      refine j_get (v := .long (Y7 70)) (q := 53) d_Mod_years_50 fk_Mod_261 fv_70_22 rfl ?_
      refine j_bipush (v := 33) (q := 55) d_Mod_years_53 (by decide +kernel) rfl ?_
      refine j_lushr (q := 56) d_Mod_years_55 rfl ?_
      refine j_ldc2 (v := 24) (q := 59) d_Mod_years_56 (gw_t 894 (by decide +kernel) (by decide +kernel)) rfl ?_
      refine j_lrem (q := 60) d_Mod_years_59 rfl ?_
      refine j_l2i (q := 61) d_Mod_years_60 rfl ?_
      refine j_lt (fun v8 => ?_)
      refine j_istore (i := 4) (L' := [some (.ref 70), some (.int x1), some (.int m2), some (.int m3), some (.int v8)]) (q := 63) d_Mod_years_61 (by decide) rfl rfl rfl ?_
      refine j_aload_n (i := 0) (x := 70) (q := 64) d_Mod_years_63 rfl rfl rfl ?_
      refine j_iload (i := 4) (x := v8) (q := 66) d_Mod_years_64 rfl rfl ?_
      refine j_iconst (v := 5) (q := 67) d_Mod_years_66 (by decide) rfl ?_
      refine j_icmp_ge (t := 79) (q := 70) d_Mod_years_67 (by decide) rfl ?_ ?_
      · refine j_iload (i := 4) (x := v8) (q := 81) d_Mod_years_79 rfl rfl ?_
        refine j_bipush (v := 10) (q := 83) d_Mod_years_81 (by decide +kernel) rfl ?_
        refine j_icmp_ge (t := 100) (q := 86) d_Mod_years_83 (by decide) rfl ?_ ?_
        · refine j_iload (i := 4) (x := v8) (q := 102) d_Mod_years_100 rfl rfl ?_
          refine j_bipush (v := 12) (q := 104) d_Mod_years_102 (by decide +kernel) rfl ?_
          refine j_icmp_ge (t := 112) (q := 107) d_Mod_years_104 (by decide) rfl ?_ ?_
          · refine j_iconst (v := 0) (q := 113) d_Mod_years_112 (by decide) rfl ?_
            refine j_sub (L' := [some (.ref 70), some (.int x1), some (.int m2), some (.int m3), none]) ⟨rfl, ⟨rfl, ⟨rfl, ⟨rfl, trivial⟩⟩⟩⟩ ?_
            exact jb_Mod_years_113 hK (fun a2 a3 A B => l_Mod_years_28 x1 kx n a2 a3 A B) kx x1 m2 m3 (0 : Int32) ih hkx X Y7
          · refine j_bipush (v := 103) (q := 109) d_Mod_years_107 (by decide +kernel) rfl ?_
            refine j_goto (q := 113) d_Mod_years_109 (by decide) ?_
            refine j_sub (L' := [some (.ref 70), some (.int x1), some (.int m2), some (.int m3), none]) ⟨rfl, ⟨rfl, ⟨rfl, ⟨rfl, trivial⟩⟩⟩⟩ ?_
            exact jb_Mod_years_113 hK (fun a2 a3 A B => l_Mod_years_28 x1 kx n a2 a3 A B) kx x1 m2 m3 (103 : Int32) ih hkx X Y7
        · refine j_sipush (v := 201) (q := 89) d_Mod_years_86 (by decide +kernel) rfl ?_
          refine j_bipush (v := 10) (q := 91) d_Mod_years_89 (by decide +kernel) rfl ?_
          refine j_iload (i := 4) (x := v8) (q := 93) d_Mod_years_91 rfl rfl ?_
          refine j_iconst (v := 5) (q := 94) d_Mod_years_93 (by decide) rfl ?_
          refine j_isub (q := 95) d_Mod_years_94 rfl ?_
          refine j_imul (q := 96) d_Mod_years_95 rfl ?_
          refine j_iadd (q := 97) d_Mod_years_96 rfl ?_
          refine j_goto (q := 113) d_Mod_years_97 (by decide) ?_
          refine j_sub (L' := [some (.ref 70), some (.int x1), some (.int m2), some (.int m3), none]) ⟨rfl, ⟨rfl, ⟨rfl, ⟨rfl, trivial⟩⟩⟩⟩ ?_
          exact jb_Mod_years_113 hK (fun a2 a3 A B => l_Mod_years_28 x1 kx n a2 a3 A B) kx x1 m2 m3 ((201 : Int32) + ((10 : Int32) * (v8 - (5 : Int32)))) ih hkx X Y7
      · refine j_sipush (v := 300) (q := 73) d_Mod_years_70 (by decide +kernel) rfl ?_
        refine j_iload (i := 4) (x := v8) (q := 75) d_Mod_years_73 rfl rfl ?_
        refine j_iadd (q := 76) d_Mod_years_75 rfl ?_
        refine j_goto (q := 113) d_Mod_years_76 (by decide) ?_
        refine j_sub (L' := [some (.ref 70), some (.int x1), some (.int m2), some (.int m3), none]) ⟨rfl, ⟨rfl, ⟨rfl, ⟨rfl, trivial⟩⟩⟩⟩ ?_
        exact jb_Mod_years_113 hK (fun a2 a3 A B => l_Mod_years_28 x1 kx n a2 a3 A B) kx x1 m2 m3 ((300 : Int32) + v8) ih hkx X Y7
set_option maxRecDepth 4000 in
theorem c_Mod_years {K : KK} (hK : kOK K) (x1 : Int32) (X : HI) (Y : HL) : CT K y_Mod_years prog_8_method_68_code 5 (some .int) rm_Mod_years [.ref 70, .int x1] X Y (f_Mod_years x1 X Y) := by
  refine ct_of hK (L := [some (.ref 70), some (.int x1), none, none, none]) (by decide) ⟨rfl, ⟨rfl, trivial⟩⟩ (Nat.le_of_ble_eq_true rfl) ?_
  unfold f_Mod_years
  refine j_aload_n (i := 0) (x := 70) (q := 1) d_Mod_years_0 rfl rfl rfl ?_
  refine j_iconst (v := 0) (q := 2) d_Mod_years_1 (by decide) rfl ?_
  refine j_putI (q := 5) d_Mod_years_2 fp_Mod_56 fw_70_0 rfl (fun X1 => ?_)
  refine j_iload_n (i := 1) (x := x1) (q := 6) d_Mod_years_5 rfl rfl rfl ?_
  refine j_i2l (q := 7) d_Mod_years_6 rfl ?_
  refine j_lconst (v := 1) (q := 8) d_Mod_years_7 (by decide) rfl ?_
  refine j_ldc2 (v := 30) (q := 11) d_Mod_years_8 (gw_t 778 (by decide +kernel) (by decide +kernel)) rfl ?_
  refine j_callSi (S := []) (q := 14) [.long x1.toInt64, .long (1 : Int64), .long (30 : Int64)] d_Mod_years_11 mw_Mod_in ms_Mod_in ml_Mod_63 rfl rfl (c_Mod_in hK (x1.toInt64) (1 : Int64) (30 : Int64) X1 Y) ⟨⟨rfl, rfl⟩, ⟨Nat.le_of_ble_eq_true rfl, Nat.le_of_ble_eq_true rfl⟩, ⟨Nat.le_refl 0, Nat.le_refl 0⟩⟩ (Nat.le_of_ble_eq_true rfl) rfl (fun r4 X2 Y3 => ?_)
  refine j_if_ne (t := 20) (q := 17) d_Mod_years_14 (by decide) rfl ?_ ?_
  · refine j_aload_n (i := 0) (x := 70) (q := 21) d_Mod_years_20 rfl rfl rfl ?_
    refine j_callVv (a := 70) (S := []) (q := 24) [] d_Mod_years_21 mw_Mod_begin mv_Mod_begin ml_Mod_182 ob_70 rfl rfl (c_Mod_begin hK X2 Y3) ⟨⟨rfl, rfl⟩, ⟨Nat.le_of_ble_eq_true rfl, Nat.le_of_ble_eq_true rfl⟩, ⟨Nat.le_refl 0, Nat.le_refl 0⟩⟩ (Nat.le_of_ble_eq_true rfl) rfl (fun X5 Y6 => ?_)
    refine j_iconst (v := 0) (q := 25) d_Mod_years_24 (by decide) rfl ?_
    refine j_istore_n (i := 2) (L' := [some (.ref 70), some (.int x1), some (.int (0 : Int32)), none, none]) (q := 26) d_Mod_years_25 rfl (by decide) rfl rfl rfl ?_
    refine j_iconst (v := 0) (q := 27) d_Mod_years_26 (by decide) rfl ?_
    refine j_istore_n (i := 3) (L' := [some (.ref 70), some (.int x1), some (.int (0 : Int32)), some (.int (0 : Int32)), none]) (q := 28) d_Mod_years_27 rfl (by decide) rfl rfl rfl ?_
    refine j_sub (L' := [some (.ref 70), some (.int x1), some (.int (0 : Int32)), some (.int (0 : Int32)), none]) ⟨rfl, ⟨rfl, ⟨rfl, ⟨rfl, trivial⟩⟩⟩⟩ ?_
    refine jl_Mod_years_28 hK x1 _ (fun w16 w17 X18 Y19 => ?_) 256 (0 : Int32) (0 : Int32) X5 Y6
    refine j_iload_n (i := 2) (x := w16) (q := 135) d_Mod_years_134 rfl rfl rfl ?_
    exact j_iret d_Mod_years_135
  · refine j_bipush (v := -2) (q := 19) d_Mod_years_17 (by decide +kernel) rfl ?_
    exact j_iret d_Mod_years_19
def l_Mod_keep_26 (x1 : Int32) (kx : Int32 → HI → HL → Option Out) : Nat → Int32 → HI → HL → Option Out
  | 0, _, _, _ => none
  | n + 1, m2, X, Y =>
    (if (15 : Int32) ≤ m2 then
    (kx m2 X Y)
    else
    gd (ixb m2 15) (
    wr (ixb (((15 : Int32) * x1) + m2) 30) (up X 79 (((15 : Int32) * x1) + m2).toNatClampNeg (X 76 m2.toNatClampNeg)) (fun X6 =>
    (l_Mod_keep_26 x1 kx n (m2 + (1 : Int32)) X6 Y))))
def f_Mod_keep (x1 : Int32) (X : HI) (Y : HL) : Option Out :=
    lh (up X 70 0 (0 : Int32)) (fun X1 =>
    bi (f_Mod_in (x1.toInt64) (0 : Int64) (1 : Int64) X1 Y) (fun r4 X2 Y3 =>
    (if r4 = 0 then
    (rI (-1 : Int32) X2 Y3)
    else
    wr (ixb x1 2) (up X2 80 x1.toNatClampNeg (vp_nar .boolean (1 : Int32))) (fun X5 =>
    (l_Mod_keep_26 x1 (fun w7 X8 Y9 =>
    gd (ixb (14 : Int32) 15) (
    (rI (X8 76 (14 : Int32).toNatClampNeg) X8 Y9))) 256 (0 : Int32) X5 Y3)))))
set_option maxRecDepth 4000 in
theorem jl_Mod_keep_26 {K : KK} (hK : kOK K) (x1 : Int32) (kx : Int32 → HI → HL → Option Out) (hkx : ∀ (m2 : Int32) (X : HI) (Y : HL), JO K "BrinePansModel" prog_8_method_69_code 3 (some .int) rm_Mod_keep 0 0 (MZ K) 55 [some (.ref 70), none, none] [] X Y (kx m2 X Y)) : ∀ (n : Nat) (m2 : Int32) (X : HI) (Y : HL), JO K "BrinePansModel" prog_8_method_69_code 3 (some .int) rm_Mod_keep 0 0 (MZ K) 26 [some (.ref 70), some (.int x1), some (.int m2)] [] X Y (l_Mod_keep_26 x1 kx n m2 X Y) := by
  intro n
  induction n with
  | zero =>
    intro m2 X Y
    rw [l_Mod_keep_26]
    exact j_none
  | succ n ih =>
    intro m2 X Y
    rw [l_Mod_keep_26]
    refine j_iload_n (i := 2) (x := m2) (q := 27) d_Mod_keep_26 rfl rfl rfl ?_
    refine j_bipush (v := 15) (q := 29) d_Mod_keep_27 (by decide +kernel) rfl ?_
    refine j_icmp_ge (t := 55) (q := 32) d_Mod_keep_29 (by decide) rfl ?_ ?_
    · refine j_sub (L' := [some (.ref 70), none, none]) ⟨rfl, trivial⟩ ?_
      exact hkx m2 X Y
    · refine j_aload_n (i := 0) (x := 70) (q := 33) d_Mod_keep_32 rfl rfl rfl ?_
      refine j_get (v := .ref 79) (q := 36) d_Mod_keep_33 fk_Mod_34 fv_70_16 rfl ?_
      refine j_bipush (v := 15) (q := 38) d_Mod_keep_36 (by decide +kernel) rfl ?_
      refine j_iload_n (i := 1) (x := x1) (q := 39) d_Mod_keep_38 rfl rfl rfl ?_
      refine j_imul (q := 40) d_Mod_keep_39 rfl ?_
      refine j_iload_n (i := 2) (x := m2) (q := 41) d_Mod_keep_40 rfl rfl rfl ?_
      refine j_iadd (q := 42) d_Mod_keep_41 rfl ?_
      refine j_aload_n (i := 0) (x := 70) (q := 43) d_Mod_keep_42 rfl rfl rfl ?_
      refine j_get (v := .ref 76) (q := 46) d_Mod_keep_43 fk_Mod_25 fv_70_12 rfl ?_
      refine j_iload_n (i := 2) (x := m2) (q := 47) d_Mod_keep_46 rfl rfl rfl ?_
      refine j_iald (q := 48) d_Mod_keep_47 ai_76 rfl ?_
      refine j_iast (q := 49) d_Mod_keep_48 ai_79 rfl (fun X6 => ?_)
      refine j_iinc (i := 2) (x := m2) (d := 1) (L' := [some (.ref 70), some (.int x1), some (.int (m2 + (1 : Int32)))]) (q := 52) d_Mod_keep_49 rfl (by decide) (by decide) rfl rfl rfl ?_
      refine j_goto (q := 26) d_Mod_keep_52 (by decide) ?_
      refine j_sub (L' := [some (.ref 70), some (.int x1), some (.int (m2 + (1 : Int32)))]) ⟨rfl, ⟨rfl, ⟨rfl, trivial⟩⟩⟩ ?_
      exact ih (m2 + (1 : Int32)) X6 Y
set_option maxRecDepth 4000 in
theorem c_Mod_keep {K : KK} (hK : kOK K) (x1 : Int32) (X : HI) (Y : HL) : CT K y_Mod_keep prog_8_method_69_code 3 (some .int) rm_Mod_keep [.ref 70, .int x1] X Y (f_Mod_keep x1 X Y) := by
  refine ct_of hK (L := [some (.ref 70), some (.int x1), none]) (by decide) ⟨rfl, ⟨rfl, trivial⟩⟩ (Nat.le_of_ble_eq_true rfl) ?_
  unfold f_Mod_keep
  refine j_aload_n (i := 0) (x := 70) (q := 1) d_Mod_keep_0 rfl rfl rfl ?_
  refine j_iconst (v := 0) (q := 2) d_Mod_keep_1 (by decide) rfl ?_
  refine j_putI (q := 5) d_Mod_keep_2 fp_Mod_56 fw_70_0 rfl (fun X1 => ?_)
  refine j_iload_n (i := 1) (x := x1) (q := 6) d_Mod_keep_5 rfl rfl rfl ?_
  refine j_i2l (q := 7) d_Mod_keep_6 rfl ?_
  refine j_lconst (v := 0) (q := 8) d_Mod_keep_7 (by decide) rfl ?_
  refine j_lconst (v := 1) (q := 9) d_Mod_keep_8 (by decide) rfl ?_
  refine j_callSi (S := []) (q := 12) [.long x1.toInt64, .long (0 : Int64), .long (1 : Int64)] d_Mod_keep_9 mw_Mod_in ms_Mod_in ml_Mod_63 rfl rfl (c_Mod_in hK (x1.toInt64) (0 : Int64) (1 : Int64) X1 Y) ⟨⟨rfl, rfl⟩, ⟨Nat.le_of_ble_eq_true rfl, Nat.le_of_ble_eq_true rfl⟩, ⟨Nat.le_refl 0, Nat.le_refl 0⟩⟩ (Nat.le_of_ble_eq_true rfl) rfl (fun r4 X2 Y3 => ?_)
  refine j_if_ne (t := 17) (q := 15) d_Mod_keep_12 (by decide) rfl ?_ ?_
  · refine j_aload_n (i := 0) (x := 70) (q := 18) d_Mod_keep_17 rfl rfl rfl ?_
    refine j_get (v := .ref 80) (q := 21) d_Mod_keep_18 fk_Mod_37 fv_70_17 rfl ?_
    refine j_iload_n (i := 1) (x := x1) (q := 22) d_Mod_keep_21 rfl rfl rfl ?_
    refine j_iconst (v := 1) (q := 23) d_Mod_keep_22 (by decide) rfl ?_
    refine j_zast (q := 24) d_Mod_keep_23 az_80 rfl (fun X5 => ?_)
    refine j_iconst (v := 0) (q := 25) d_Mod_keep_24 (by decide) rfl ?_
    refine j_istore_n (i := 2) (L' := [some (.ref 70), some (.int x1), some (.int (0 : Int32))]) (q := 26) d_Mod_keep_25 rfl (by decide) rfl rfl rfl ?_
    refine j_sub (L' := [some (.ref 70), some (.int x1), some (.int (0 : Int32))]) ⟨rfl, ⟨rfl, ⟨rfl, trivial⟩⟩⟩ ?_
    refine jl_Mod_keep_26 hK x1 _ (fun w7 X8 Y9 => ?_) 256 (0 : Int32) X5 Y3
    refine j_aload_n (i := 0) (x := 70) (q := 56) d_Mod_keep_55 rfl rfl rfl ?_
    refine j_get (v := .ref 76) (q := 59) d_Mod_keep_56 fk_Mod_25 fv_70_12 rfl ?_
    refine j_bipush (v := 14) (q := 61) d_Mod_keep_59 (by decide +kernel) rfl ?_
    refine j_iald (q := 62) d_Mod_keep_61 ai_76 rfl ?_
    exact j_iret d_Mod_keep_62
  · refine j_iconst (v := -1) (q := 16) d_Mod_keep_15 (by decide) rfl ?_
    exact j_iret d_Mod_keep_16
def l_Mod_again_31 (x1 : Int32) (kx : Int32 → HI → HL → Option Out) : Nat → Int32 → HI → HL → Option Out
  | 0, _, _, _ => none
  | n + 1, m2, X, Y =>
    (if (15 : Int32) ≤ m2 then
    (kx m2 X Y)
    else
    gd (ixb (((15 : Int32) * x1) + m2) 30) (
    wr (ixb m2 15) (up X 76 m2.toNatClampNeg (X 79 (((15 : Int32) * x1) + m2).toNatClampNeg)) (fun X5 =>
    (l_Mod_again_31 x1 kx n (m2 + (1 : Int32)) X5 Y))))
def f_Mod_again (x1 : Int32) (X : HI) (Y : HL) : Option Out :=
    lh (up X 70 0 (0 : Int32)) (fun X1 =>
    bi (f_Mod_in (x1.toInt64) (0 : Int64) (1 : Int64) X1 Y) (fun r4 X2 Y3 =>
    (if r4 = 0 then
    (rI (-1 : Int32) X2 Y3)
    else
    gd (ixb x1 2) (
    (if (X2 80 x1.toNatClampNeg) = 0 then
    (rI (-3 : Int32) X2 Y3)
    else
    (l_Mod_again_31 x1 (fun w6 X7 Y8 =>
    lh (up X7 70 15 (0 : Int32)) (fun X9 =>
    gd (ixb (14 : Int32) 15) (
    (rI (X9 76 (14 : Int32).toNatClampNeg) X9 Y8)))) 256 (0 : Int32) X2 Y3))))))
set_option maxRecDepth 4000 in
theorem jl_Mod_again_31 {K : KK} (hK : kOK K) (x1 : Int32) (kx : Int32 → HI → HL → Option Out) (hkx : ∀ (m2 : Int32) (X : HI) (Y : HL), JO K "BrinePansModel" prog_8_method_70_code 3 (some .int) rm_Mod_again 0 0 (MZ K) 60 [some (.ref 70), none, none] [] X Y (kx m2 X Y)) : ∀ (n : Nat) (m2 : Int32) (X : HI) (Y : HL), JO K "BrinePansModel" prog_8_method_70_code 3 (some .int) rm_Mod_again 0 0 (MZ K) 31 [some (.ref 70), some (.int x1), some (.int m2)] [] X Y (l_Mod_again_31 x1 kx n m2 X Y) := by
  intro n
  induction n with
  | zero =>
    intro m2 X Y
    rw [l_Mod_again_31]
    exact j_none
  | succ n ih =>
    intro m2 X Y
    rw [l_Mod_again_31]
    refine j_iload_n (i := 2) (x := m2) (q := 32) d_Mod_again_31 rfl rfl rfl ?_
    refine j_bipush (v := 15) (q := 34) d_Mod_again_32 (by decide +kernel) rfl ?_
    refine j_icmp_ge (t := 60) (q := 37) d_Mod_again_34 (by decide) rfl ?_ ?_
    · refine j_sub (L' := [some (.ref 70), none, none]) ⟨rfl, trivial⟩ ?_
      exact hkx m2 X Y
    · refine j_aload_n (i := 0) (x := 70) (q := 38) d_Mod_again_37 rfl rfl rfl ?_
      refine j_get (v := .ref 76) (q := 41) d_Mod_again_38 fk_Mod_25 fv_70_12 rfl ?_
      refine j_iload_n (i := 2) (x := m2) (q := 42) d_Mod_again_41 rfl rfl rfl ?_
      refine j_aload_n (i := 0) (x := 70) (q := 43) d_Mod_again_42 rfl rfl rfl ?_
      refine j_get (v := .ref 79) (q := 46) d_Mod_again_43 fk_Mod_34 fv_70_16 rfl ?_
      refine j_bipush (v := 15) (q := 48) d_Mod_again_46 (by decide +kernel) rfl ?_
      refine j_iload_n (i := 1) (x := x1) (q := 49) d_Mod_again_48 rfl rfl rfl ?_
      refine j_imul (q := 50) d_Mod_again_49 rfl ?_
      refine j_iload_n (i := 2) (x := m2) (q := 51) d_Mod_again_50 rfl rfl rfl ?_
      refine j_iadd (q := 52) d_Mod_again_51 rfl ?_
      refine j_iald (q := 53) d_Mod_again_52 ai_79 rfl ?_
      refine j_iast (q := 54) d_Mod_again_53 ai_76 rfl (fun X5 => ?_)
      refine j_iinc (i := 2) (x := m2) (d := 1) (L' := [some (.ref 70), some (.int x1), some (.int (m2 + (1 : Int32)))]) (q := 57) d_Mod_again_54 rfl (by decide) (by decide) rfl rfl rfl ?_
      refine j_goto (q := 31) d_Mod_again_57 (by decide) ?_
      refine j_sub (L' := [some (.ref 70), some (.int x1), some (.int (m2 + (1 : Int32)))]) ⟨rfl, ⟨rfl, ⟨rfl, trivial⟩⟩⟩ ?_
      exact ih (m2 + (1 : Int32)) X5 Y
set_option maxRecDepth 4000 in
theorem c_Mod_again {K : KK} (hK : kOK K) (x1 : Int32) (X : HI) (Y : HL) : CT K y_Mod_again prog_8_method_70_code 3 (some .int) rm_Mod_again [.ref 70, .int x1] X Y (f_Mod_again x1 X Y) := by
  refine ct_of hK (L := [some (.ref 70), some (.int x1), none]) (by decide) ⟨rfl, ⟨rfl, trivial⟩⟩ (Nat.le_of_ble_eq_true rfl) ?_
  unfold f_Mod_again
  refine j_aload_n (i := 0) (x := 70) (q := 1) d_Mod_again_0 rfl rfl rfl ?_
  refine j_iconst (v := 0) (q := 2) d_Mod_again_1 (by decide) rfl ?_
  refine j_putI (q := 5) d_Mod_again_2 fp_Mod_56 fw_70_0 rfl (fun X1 => ?_)
  refine j_iload_n (i := 1) (x := x1) (q := 6) d_Mod_again_5 rfl rfl rfl ?_
  refine j_i2l (q := 7) d_Mod_again_6 rfl ?_
  refine j_lconst (v := 0) (q := 8) d_Mod_again_7 (by decide) rfl ?_
  refine j_lconst (v := 1) (q := 9) d_Mod_again_8 (by decide) rfl ?_
  refine j_callSi (S := []) (q := 12) [.long x1.toInt64, .long (0 : Int64), .long (1 : Int64)] d_Mod_again_9 mw_Mod_in ms_Mod_in ml_Mod_63 rfl rfl (c_Mod_in hK (x1.toInt64) (0 : Int64) (1 : Int64) X1 Y) ⟨⟨rfl, rfl⟩, ⟨Nat.le_of_ble_eq_true rfl, Nat.le_of_ble_eq_true rfl⟩, ⟨Nat.le_refl 0, Nat.le_refl 0⟩⟩ (Nat.le_of_ble_eq_true rfl) rfl (fun r4 X2 Y3 => ?_)
  refine j_if_ne (t := 17) (q := 15) d_Mod_again_12 (by decide) rfl ?_ ?_
  · refine j_aload_n (i := 0) (x := 70) (q := 18) d_Mod_again_17 rfl rfl rfl ?_
    refine j_get (v := .ref 80) (q := 21) d_Mod_again_18 fk_Mod_37 fv_70_17 rfl ?_
    refine j_iload_n (i := 1) (x := x1) (q := 22) d_Mod_again_21 rfl rfl rfl ?_
    refine j_zald (q := 23) d_Mod_again_22 az_80 rfl ?_
    refine j_if_ne (t := 29) (q := 26) d_Mod_again_23 (by decide) rfl ?_ ?_
    · refine j_iconst (v := 0) (q := 30) d_Mod_again_29 (by decide) rfl ?_
      refine j_istore_n (i := 2) (L' := [some (.ref 70), some (.int x1), some (.int (0 : Int32))]) (q := 31) d_Mod_again_30 rfl (by decide) rfl rfl rfl ?_
      refine j_sub (L' := [some (.ref 70), some (.int x1), some (.int (0 : Int32))]) ⟨rfl, ⟨rfl, ⟨rfl, trivial⟩⟩⟩ ?_
      refine jl_Mod_again_31 hK x1 _ (fun w6 X7 Y8 => ?_) 256 (0 : Int32) X2 Y3
      refine j_aload_n (i := 0) (x := 70) (q := 61) d_Mod_again_60 rfl rfl rfl ?_
      refine j_iconst (v := 0) (q := 62) d_Mod_again_61 (by decide) rfl ?_
      refine j_putI (q := 65) d_Mod_again_62 fp_Mod_103 fw_70_15 rfl (fun X9 => ?_)
      refine j_aload_n (i := 0) (x := 70) (q := 66) d_Mod_again_65 rfl rfl rfl ?_
      refine j_get (v := .ref 76) (q := 69) d_Mod_again_66 fk_Mod_25 fv_70_12 rfl ?_
      refine j_bipush (v := 14) (q := 71) d_Mod_again_69 (by decide +kernel) rfl ?_
      refine j_iald (q := 72) d_Mod_again_71 ai_76 rfl ?_
      exact j_iret d_Mod_again_72
    · refine j_bipush (v := -3) (q := 28) d_Mod_again_26 (by decide +kernel) rfl ?_
      exact j_iret d_Mod_again_28
  · refine j_iconst (v := -1) (q := 16) d_Mod_again_15 (by decide) rfl ?_
    exact j_iret d_Mod_again_16
