/-! what the constructors made is the fixed world -/
def mkK (D : va_G) (z : TYs) (v : Nat → Nat) (A : Nat → Prop) (ts : Nat → Nat) : KK := (D, (v, (A, ((z.1, (z.2.1, z.2.2)), ts))))
def WL (z : TYs) (v : Nat → Nat) (f f2 : Nat → Option Nat) : va_W := brL z (v 0) (v 1) (v 2) (v 3) (v 4) (v 5) (v 16) (v 17) (v 18) (v 19) (v 20) (v 21) (v 6) (v 7) f [(v 28, (v 29, v 30)), (v 31, (v 32, v 33)), (v 34, (v 35, v 36)), (v 37, (v 38, v 39)), (v 40, (v 41, v 42)), (v 43, (v 44, v 45)), (v 46, (v 47, v 48)), (v 49, (v 50, v 51)), (v 52, (v 53, v 54)), (v 55, (v 56, v 57)), (v 58, (v 59, v 60)), (v 61, (v 62, v 63)), (v 64, (v 65, v 66)), (v 67, (v 68, v 69))] (v 8) (v 9) (v 10) (v 11) (v 12) f2 (v 22) (v 23) (v 24) (v 25) (v 26) (v 27) (v 13) (v 14) (v 15) ++ moL z (v 70) (v 71) (v 72) (v 73) (v 74) (v 75) (v 76) (v 77) (v 78) (v 79) (v 80) (v 81) (v 82) (v 83) (v 84) (v 85)
def off (c : Nat) : Nat := if c ≤ 5 then c else if c = 6 then 12 else if c = 7 then 13 else if c ≤ 11 then c + 48 else if c = 12 then 60 else if c ≤ 15 then c + 54 else if c ≤ 21 then c - 10 else if c ≤ 27 then c + 39 else if c ≤ 69 then c - 14 else c
theorem off_inj : ∀ a, a < 86 → ∀ b, b < 86 → off a = off b → a = b := by decide +kernel
def X00 : HI := fun _ _ => 0
def Y00 : HL := fun _ => 0
def WX (z : TYs) (v : Nat → Nat) (f f2 : Nat → Option Nat) : va_W := [(v 0, .inr (5, [.ref (v 1), .ref (v 3), .ref (v 16), .ref (v 19), .ref (v 6), .ref (v 8), .ref (v 12), .ref (v 13), .ref (v 14), .ref (v 15), .long 0])), (v 1, .inr (4, [.ref (v 2), .int 0])), (v 2, .inl (z.1, 36, .inl (fun _ => 0))), (v 3, .inr (2, [.ref (v 4), .ref (v 5), .int 0, .int 0])), (v 4, .inl (z.1, 6, .inl (fun _ => 0))), (v 5, .inl (z.1, 5, .inl (fun _ => 0))), (v 16, .inr (3, [.ref (v 3), .ref (v 17), .ref (v 18), .int 0, .int 0, .int 0])), (v 17, .inl (z.1, 6, .inl (fun _ => 0))), (v 18, .inl (z.1, 6, .inl (fun _ => 0))), (v 19, .inr (3, [.ref (v 3), .ref (v 20), .ref (v 21), .int 0, .int 0, .int 0])), (v 20, .inl (z.1, 6, .inl (fun _ => 0))), (v 21, .inl (z.1, 6, .inl (fun _ => 0))), (v 6, .inr (0, [.ref (v 7), .int 0, .int 0])), (v 7, rfE z 14 f), (v 28, .inr (3, [.ref (v 3), .ref (v 29), .ref (v 30), .int 0, .int 0, .int 0])), (v 29, .inl (z.1, 6, .inl (fun _ => 0))), (v 30, .inl (z.1, 6, .inl (fun _ => 0))), (v 31, .inr (3, [.ref (v 3), .ref (v 32), .ref (v 33), .int 0, .int 0, .int 0])), (v 32, .inl (z.1, 6, .inl (fun _ => 0))), (v 33, .inl (z.1, 6, .inl (fun _ => 0))), (v 34, .inr (3, [.ref (v 3), .ref (v 35), .ref (v 36), .int 0, .int 0, .int 0])), (v 35, .inl (z.1, 6, .inl (fun _ => 0))), (v 36, .inl (z.1, 6, .inl (fun _ => 0))), (v 37, .inr (3, [.ref (v 3), .ref (v 38), .ref (v 39), .int 0, .int 0, .int 0])), (v 38, .inl (z.1, 6, .inl (fun _ => 0))), (v 39, .inl (z.1, 6, .inl (fun _ => 0))), (v 40, .inr (3, [.ref (v 3), .ref (v 41), .ref (v 42), .int 0, .int 0, .int 0])), (v 41, .inl (z.1, 6, .inl (fun _ => 0))), (v 42, .inl (z.1, 6, .inl (fun _ => 0))), (v 43, .inr (3, [.ref (v 3), .ref (v 44), .ref (v 45), .int 0, .int 0, .int 0])), (v 44, .inl (z.1, 6, .inl (fun _ => 0))), (v 45, .inl (z.1, 6, .inl (fun _ => 0))), (v 46, .inr (3, [.ref (v 3), .ref (v 47), .ref (v 48), .int 0, .int 0, .int 0])), (v 47, .inl (z.1, 6, .inl (fun _ => 0))), (v 48, .inl (z.1, 6, .inl (fun _ => 0))), (v 49, .inr (3, [.ref (v 3), .ref (v 50), .ref (v 51), .int 0, .int 0, .int 0])), (v 50, .inl (z.1, 6, .inl (fun _ => 0))), (v 51, .inl (z.1, 6, .inl (fun _ => 0))), (v 52, .inr (3, [.ref (v 3), .ref (v 53), .ref (v 54), .int 0, .int 0, .int 0])), (v 53, .inl (z.1, 6, .inl (fun _ => 0))), (v 54, .inl (z.1, 6, .inl (fun _ => 0))), (v 55, .inr (3, [.ref (v 3), .ref (v 56), .ref (v 57), .int 0, .int 0, .int 0])), (v 56, .inl (z.1, 6, .inl (fun _ => 0))), (v 57, .inl (z.1, 6, .inl (fun _ => 0))), (v 58, .inr (3, [.ref (v 3), .ref (v 59), .ref (v 60), .int 0, .int 0, .int 0])), (v 59, .inl (z.1, 6, .inl (fun _ => 0))), (v 60, .inl (z.1, 6, .inl (fun _ => 0))), (v 61, .inr (3, [.ref (v 3), .ref (v 62), .ref (v 63), .int 0, .int 0, .int 0])), (v 62, .inl (z.1, 6, .inl (fun _ => 0))), (v 63, .inl (z.1, 6, .inl (fun _ => 0))), (v 64, .inr (3, [.ref (v 3), .ref (v 65), .ref (v 66), .int 0, .int 0, .int 0])), (v 65, .inl (z.1, 6, .inl (fun _ => 0))), (v 66, .inl (z.1, 6, .inl (fun _ => 0))), (v 67, .inr (3, [.ref (v 3), .ref (v 68), .ref (v 69), .int 0, .int 0, .int 0])), (v 68, .inl (z.1, 6, .inl (fun _ => 0))), (v 69, .inl (z.1, 6, .inl (fun _ => 0))), (v 8, .inr (1, [.ref (v 9), .ref (v 10), .ref (v 11), .int 0])), (v 9, .inl (z.1, 6, .inl (fun _ => 0))), (v 10, .inl (z.1, 6, .inl (fun _ => 0))), (v 11, .inl (z.2.1, 6, .inl (fun _ => 0))), (v 12, rfE z 2 f2), (v 22, .inr (3, [.ref (v 3), .ref (v 23), .ref (v 24), .int 0, .int 0, .int 0])), (v 23, .inl (z.1, 6, .inl (fun _ => 0))), (v 24, .inl (z.1, 6, .inl (fun _ => 0))), (v 25, .inr (3, [.ref (v 3), .ref (v 26), .ref (v 27), .int 0, .int 0, .int 0])), (v 26, .inl (z.1, 6, .inl (fun _ => 0))), (v 27, .inl (z.1, 6, .inl (fun _ => 0))), (v 13, .inl (z.2.1, 2, .inl (fun _ => 0))), (v 14, .inl (z.1, 64, .inl (fun _ => 0))), (v 15, .inl (z.1, 8, .inl (fun _ => 0))), (v 70, .inr (6, [.int 0, .ref (v 71), .int 0, .int 0, .int 0, .ref (v 72), .int 0, .ref (v 73), .int 0, .ref (v 74), .int 0, .ref (v 75), .ref (v 76), .ref (v 77), .ref (v 78), .int 0, .ref (v 79), .ref (v 80), .int 0, .ref (v 81), .ref (v 82), .ref (v 83), .long 0, .int 0, .int 0, .int 0, .int 0, .int 0, .int 0, .ref (v 84), .ref (v 85)])), (v 71, .inl (z.1, 36, .inl (fun _ => 0))), (v 72, .inl (z.1, 6, .inl (fun _ => 0))), (v 73, .inl (z.1, 5, .inl (fun _ => 0))), (v 74, .inl (z.1, 18, .inl (fun _ => 0))), (v 75, .inl (z.1, 5, .inl (fun _ => 0))), (v 76, .inl (z.1, 15, .inl (fun _ => 0))), (v 77, .inl (z.1, 15, .inl (fun _ => 0))), (v 78, .inl (z.1, 210, .inl (fun _ => 0))), (v 79, .inl (z.1, 30, .inl (fun _ => 0))), (v 80, .inl (z.2.1, 2, .inl (fun _ => 0))), (v 81, .inl (z.1, 6, .inl (fun _ => 0))), (v 82, .inl (z.1, 6, .inl (fun _ => 0))), (v 83, .inl (z.1, 6, .inl (fun _ => 0))), (v 84, .inl (z.1, 8, .inl (fun _ => 0))), (v 85, .inl (z.1, 64, .inl (fun _ => 0)))]
theorem WL_e (z : TYs) (v : Nat → Nat) (f f2 : Nat → Option Nat) : WL z v f f2 = WX z v f f2 := rfl
theorem wx_0 (z : TYs) (v : Nat → Nat) (f f2 : Nat → Option Nat) : (WX z v f f2)[off 0]? = some (v 0, .inr (5, [.ref (v 1), .ref (v 3), .ref (v 16), .ref (v 19), .ref (v 6), .ref (v 8), .ref (v 12), .ref (v 13), .ref (v 14), .ref (v 15), .long 0])) := by rw [show off 0 = 0 from by decide]; rfl
theorem wb_c0 (D : va_G) (z : TYs) (v : Nat → Nat) (A : Nat → Prop) (ts : Nat → Nat) : cB (mkK D z v A ts) (X00 0) (Y00 0) 0 = .inr (5, [.ref (v 1), .ref (v 3), .ref (v 16), .ref (v 19), .ref (v 6), .ref (v 8), .ref (v 12), .ref (v 13), .ref (v 14), .ref (v 15), .long 0]) := rfl
theorem wx_1 (z : TYs) (v : Nat → Nat) (f f2 : Nat → Option Nat) : (WX z v f f2)[off 1]? = some (v 1, .inr (4, [.ref (v 2), .int 0])) := by rw [show off 1 = 1 from by decide]; rfl
theorem wb_c1 (D : va_G) (z : TYs) (v : Nat → Nat) (A : Nat → Prop) (ts : Nat → Nat) : cB (mkK D z v A ts) (X00 1) (Y00 1) 1 = .inr (4, [.ref (v 2), .int 0]) := rfl
theorem wx_2 (z : TYs) (v : Nat → Nat) (f f2 : Nat → Option Nat) : (WX z v f f2)[off 2]? = some (v 2, .inl (z.1, 36, .inl (fun _ => 0))) := by rw [show off 2 = 2 from by decide]; rfl
theorem wb_c2 (D : va_G) (z : TYs) (v : Nat → Nat) (A : Nat → Prop) (ts : Nat → Nat) : cB (mkK D z v A ts) (X00 2) (Y00 2) 2 = .inl (z.1, 36, .inl (fun _ => 0)) := rfl
theorem wx_3 (z : TYs) (v : Nat → Nat) (f f2 : Nat → Option Nat) : (WX z v f f2)[off 3]? = some (v 3, .inr (2, [.ref (v 4), .ref (v 5), .int 0, .int 0])) := by rw [show off 3 = 3 from by decide]; rfl
theorem wb_c3 (D : va_G) (z : TYs) (v : Nat → Nat) (A : Nat → Prop) (ts : Nat → Nat) : cB (mkK D z v A ts) (X00 3) (Y00 3) 3 = .inr (2, [.ref (v 4), .ref (v 5), .int 0, .int 0]) := rfl
theorem wx_4 (z : TYs) (v : Nat → Nat) (f f2 : Nat → Option Nat) : (WX z v f f2)[off 4]? = some (v 4, .inl (z.1, 6, .inl (fun _ => 0))) := by rw [show off 4 = 4 from by decide]; rfl
theorem wb_c4 (D : va_G) (z : TYs) (v : Nat → Nat) (A : Nat → Prop) (ts : Nat → Nat) : cB (mkK D z v A ts) (X00 4) (Y00 4) 4 = .inl (z.1, 6, .inl (fun _ => 0)) := rfl
theorem wx_5 (z : TYs) (v : Nat → Nat) (f f2 : Nat → Option Nat) : (WX z v f f2)[off 5]? = some (v 5, .inl (z.1, 5, .inl (fun _ => 0))) := by rw [show off 5 = 5 from by decide]; rfl
theorem wb_c5 (D : va_G) (z : TYs) (v : Nat → Nat) (A : Nat → Prop) (ts : Nat → Nat) : cB (mkK D z v A ts) (X00 5) (Y00 5) 5 = .inl (z.1, 5, .inl (fun _ => 0)) := rfl
theorem wx_6 (z : TYs) (v : Nat → Nat) (f f2 : Nat → Option Nat) : (WX z v f f2)[off 6]? = some (v 6, .inr (0, [.ref (v 7), .int 0, .int 0])) := by rw [show off 6 = 12 from by decide]; rfl
theorem wb_c6 (D : va_G) (z : TYs) (v : Nat → Nat) (A : Nat → Prop) (ts : Nat → Nat) : cB (mkK D z v A ts) (X00 6) (Y00 6) 6 = .inr (0, [.ref (v 7), .int 0, .int 0]) := rfl
theorem wx_7 (z : TYs) (v : Nat → Nat) (f f2 : Nat → Option Nat) : (WX z v f f2)[off 7]? = some (v 7, rfE z 14 f) := by rw [show off 7 = 13 from by decide]; rfl
theorem wx_8 (z : TYs) (v : Nat → Nat) (f f2 : Nat → Option Nat) : (WX z v f f2)[off 8]? = some (v 8, .inr (1, [.ref (v 9), .ref (v 10), .ref (v 11), .int 0])) := by rw [show off 8 = 56 from by decide]; rfl
theorem wb_c8 (D : va_G) (z : TYs) (v : Nat → Nat) (A : Nat → Prop) (ts : Nat → Nat) : cB (mkK D z v A ts) (X00 8) (Y00 8) 8 = .inr (1, [.ref (v 9), .ref (v 10), .ref (v 11), .int 0]) := rfl
theorem wx_9 (z : TYs) (v : Nat → Nat) (f f2 : Nat → Option Nat) : (WX z v f f2)[off 9]? = some (v 9, .inl (z.1, 6, .inl (fun _ => 0))) := by rw [show off 9 = 57 from by decide]; rfl
theorem wb_c9 (D : va_G) (z : TYs) (v : Nat → Nat) (A : Nat → Prop) (ts : Nat → Nat) : cB (mkK D z v A ts) (X00 9) (Y00 9) 9 = .inl (z.1, 6, .inl (fun _ => 0)) := rfl
theorem wx_10 (z : TYs) (v : Nat → Nat) (f f2 : Nat → Option Nat) : (WX z v f f2)[off 10]? = some (v 10, .inl (z.1, 6, .inl (fun _ => 0))) := by rw [show off 10 = 58 from by decide]; rfl
theorem wb_c10 (D : va_G) (z : TYs) (v : Nat → Nat) (A : Nat → Prop) (ts : Nat → Nat) : cB (mkK D z v A ts) (X00 10) (Y00 10) 10 = .inl (z.1, 6, .inl (fun _ => 0)) := rfl
theorem wx_11 (z : TYs) (v : Nat → Nat) (f f2 : Nat → Option Nat) : (WX z v f f2)[off 11]? = some (v 11, .inl (z.2.1, 6, .inl (fun _ => 0))) := by rw [show off 11 = 59 from by decide]; rfl
theorem wb_c11 (D : va_G) (z : TYs) (v : Nat → Nat) (A : Nat → Prop) (ts : Nat → Nat) : cB (mkK D z v A ts) (X00 11) (Y00 11) 11 = .inl (z.2.1, 6, .inl (fun _ => 0)) := rfl
theorem wx_12 (z : TYs) (v : Nat → Nat) (f f2 : Nat → Option Nat) : (WX z v f f2)[off 12]? = some (v 12, rfE z 2 f2) := by rw [show off 12 = 60 from by decide]; rfl
theorem wx_13 (z : TYs) (v : Nat → Nat) (f f2 : Nat → Option Nat) : (WX z v f f2)[off 13]? = some (v 13, .inl (z.2.1, 2, .inl (fun _ => 0))) := by rw [show off 13 = 67 from by decide]; rfl
theorem wb_c13 (D : va_G) (z : TYs) (v : Nat → Nat) (A : Nat → Prop) (ts : Nat → Nat) : cB (mkK D z v A ts) (X00 13) (Y00 13) 13 = .inl (z.2.1, 2, .inl (fun _ => 0)) := rfl
theorem wx_14 (z : TYs) (v : Nat → Nat) (f f2 : Nat → Option Nat) : (WX z v f f2)[off 14]? = some (v 14, .inl (z.1, 64, .inl (fun _ => 0))) := by rw [show off 14 = 68 from by decide]; rfl
theorem wb_c14 (D : va_G) (z : TYs) (v : Nat → Nat) (A : Nat → Prop) (ts : Nat → Nat) : cB (mkK D z v A ts) (X00 14) (Y00 14) 14 = .inl (z.1, 64, .inl (fun _ => 0)) := rfl
theorem wx_15 (z : TYs) (v : Nat → Nat) (f f2 : Nat → Option Nat) : (WX z v f f2)[off 15]? = some (v 15, .inl (z.1, 8, .inl (fun _ => 0))) := by rw [show off 15 = 69 from by decide]; rfl
theorem wb_c15 (D : va_G) (z : TYs) (v : Nat → Nat) (A : Nat → Prop) (ts : Nat → Nat) : cB (mkK D z v A ts) (X00 15) (Y00 15) 15 = .inl (z.1, 8, .inl (fun _ => 0)) := rfl
theorem wx_16 (z : TYs) (v : Nat → Nat) (f f2 : Nat → Option Nat) : (WX z v f f2)[off 16]? = some (v 16, .inr (3, [.ref (v 3), .ref (v 17), .ref (v 18), .int 0, .int 0, .int 0])) := by rw [show off 16 = 6 from by decide]; rfl
theorem wb_c16 (D : va_G) (z : TYs) (v : Nat → Nat) (A : Nat → Prop) (ts : Nat → Nat) : cB (mkK D z v A ts) (X00 16) (Y00 16) 16 = .inr (3, [.ref (v 3), .ref (v 17), .ref (v 18), .int 0, .int 0, .int 0]) := rfl
theorem wx_17 (z : TYs) (v : Nat → Nat) (f f2 : Nat → Option Nat) : (WX z v f f2)[off 17]? = some (v 17, .inl (z.1, 6, .inl (fun _ => 0))) := by rw [show off 17 = 7 from by decide]; rfl
theorem wb_c17 (D : va_G) (z : TYs) (v : Nat → Nat) (A : Nat → Prop) (ts : Nat → Nat) : cB (mkK D z v A ts) (X00 17) (Y00 17) 17 = .inl (z.1, 6, .inl (fun _ => 0)) := rfl
theorem wx_18 (z : TYs) (v : Nat → Nat) (f f2 : Nat → Option Nat) : (WX z v f f2)[off 18]? = some (v 18, .inl (z.1, 6, .inl (fun _ => 0))) := by rw [show off 18 = 8 from by decide]; rfl
theorem wb_c18 (D : va_G) (z : TYs) (v : Nat → Nat) (A : Nat → Prop) (ts : Nat → Nat) : cB (mkK D z v A ts) (X00 18) (Y00 18) 18 = .inl (z.1, 6, .inl (fun _ => 0)) := rfl
theorem wx_19 (z : TYs) (v : Nat → Nat) (f f2 : Nat → Option Nat) : (WX z v f f2)[off 19]? = some (v 19, .inr (3, [.ref (v 3), .ref (v 20), .ref (v 21), .int 0, .int 0, .int 0])) := by rw [show off 19 = 9 from by decide]; rfl
theorem wb_c19 (D : va_G) (z : TYs) (v : Nat → Nat) (A : Nat → Prop) (ts : Nat → Nat) : cB (mkK D z v A ts) (X00 19) (Y00 19) 19 = .inr (3, [.ref (v 3), .ref (v 20), .ref (v 21), .int 0, .int 0, .int 0]) := rfl
theorem wx_20 (z : TYs) (v : Nat → Nat) (f f2 : Nat → Option Nat) : (WX z v f f2)[off 20]? = some (v 20, .inl (z.1, 6, .inl (fun _ => 0))) := by rw [show off 20 = 10 from by decide]; rfl
theorem wb_c20 (D : va_G) (z : TYs) (v : Nat → Nat) (A : Nat → Prop) (ts : Nat → Nat) : cB (mkK D z v A ts) (X00 20) (Y00 20) 20 = .inl (z.1, 6, .inl (fun _ => 0)) := rfl
theorem wx_21 (z : TYs) (v : Nat → Nat) (f f2 : Nat → Option Nat) : (WX z v f f2)[off 21]? = some (v 21, .inl (z.1, 6, .inl (fun _ => 0))) := by rw [show off 21 = 11 from by decide]; rfl
theorem wb_c21 (D : va_G) (z : TYs) (v : Nat → Nat) (A : Nat → Prop) (ts : Nat → Nat) : cB (mkK D z v A ts) (X00 21) (Y00 21) 21 = .inl (z.1, 6, .inl (fun _ => 0)) := rfl
theorem wx_22 (z : TYs) (v : Nat → Nat) (f f2 : Nat → Option Nat) : (WX z v f f2)[off 22]? = some (v 22, .inr (3, [.ref (v 3), .ref (v 23), .ref (v 24), .int 0, .int 0, .int 0])) := by rw [show off 22 = 61 from by decide]; rfl
theorem wb_c22 (D : va_G) (z : TYs) (v : Nat → Nat) (A : Nat → Prop) (ts : Nat → Nat) : cB (mkK D z v A ts) (X00 22) (Y00 22) 22 = .inr (3, [.ref (v 3), .ref (v 23), .ref (v 24), .int 0, .int 0, .int 0]) := rfl
theorem wx_23 (z : TYs) (v : Nat → Nat) (f f2 : Nat → Option Nat) : (WX z v f f2)[off 23]? = some (v 23, .inl (z.1, 6, .inl (fun _ => 0))) := by rw [show off 23 = 62 from by decide]; rfl
theorem wb_c23 (D : va_G) (z : TYs) (v : Nat → Nat) (A : Nat → Prop) (ts : Nat → Nat) : cB (mkK D z v A ts) (X00 23) (Y00 23) 23 = .inl (z.1, 6, .inl (fun _ => 0)) := rfl
theorem wx_24 (z : TYs) (v : Nat → Nat) (f f2 : Nat → Option Nat) : (WX z v f f2)[off 24]? = some (v 24, .inl (z.1, 6, .inl (fun _ => 0))) := by rw [show off 24 = 63 from by decide]; rfl
theorem wb_c24 (D : va_G) (z : TYs) (v : Nat → Nat) (A : Nat → Prop) (ts : Nat → Nat) : cB (mkK D z v A ts) (X00 24) (Y00 24) 24 = .inl (z.1, 6, .inl (fun _ => 0)) := rfl
theorem wx_25 (z : TYs) (v : Nat → Nat) (f f2 : Nat → Option Nat) : (WX z v f f2)[off 25]? = some (v 25, .inr (3, [.ref (v 3), .ref (v 26), .ref (v 27), .int 0, .int 0, .int 0])) := by rw [show off 25 = 64 from by decide]; rfl
theorem wb_c25 (D : va_G) (z : TYs) (v : Nat → Nat) (A : Nat → Prop) (ts : Nat → Nat) : cB (mkK D z v A ts) (X00 25) (Y00 25) 25 = .inr (3, [.ref (v 3), .ref (v 26), .ref (v 27), .int 0, .int 0, .int 0]) := rfl
theorem wx_26 (z : TYs) (v : Nat → Nat) (f f2 : Nat → Option Nat) : (WX z v f f2)[off 26]? = some (v 26, .inl (z.1, 6, .inl (fun _ => 0))) := by rw [show off 26 = 65 from by decide]; rfl
theorem wb_c26 (D : va_G) (z : TYs) (v : Nat → Nat) (A : Nat → Prop) (ts : Nat → Nat) : cB (mkK D z v A ts) (X00 26) (Y00 26) 26 = .inl (z.1, 6, .inl (fun _ => 0)) := rfl
theorem wx_27 (z : TYs) (v : Nat → Nat) (f f2 : Nat → Option Nat) : (WX z v f f2)[off 27]? = some (v 27, .inl (z.1, 6, .inl (fun _ => 0))) := by rw [show off 27 = 66 from by decide]; rfl
theorem wb_c27 (D : va_G) (z : TYs) (v : Nat → Nat) (A : Nat → Prop) (ts : Nat → Nat) : cB (mkK D z v A ts) (X00 27) (Y00 27) 27 = .inl (z.1, 6, .inl (fun _ => 0)) := rfl
theorem wx_28 (z : TYs) (v : Nat → Nat) (f f2 : Nat → Option Nat) : (WX z v f f2)[off 28]? = some (v 28, .inr (3, [.ref (v 3), .ref (v 29), .ref (v 30), .int 0, .int 0, .int 0])) := by rw [show off 28 = 14 from by decide]; rfl
theorem wb_c28 (D : va_G) (z : TYs) (v : Nat → Nat) (A : Nat → Prop) (ts : Nat → Nat) : cB (mkK D z v A ts) (X00 28) (Y00 28) 28 = .inr (3, [.ref (v 3), .ref (v 29), .ref (v 30), .int 0, .int 0, .int 0]) := rfl
theorem wx_29 (z : TYs) (v : Nat → Nat) (f f2 : Nat → Option Nat) : (WX z v f f2)[off 29]? = some (v 29, .inl (z.1, 6, .inl (fun _ => 0))) := by rw [show off 29 = 15 from by decide]; rfl
theorem wb_c29 (D : va_G) (z : TYs) (v : Nat → Nat) (A : Nat → Prop) (ts : Nat → Nat) : cB (mkK D z v A ts) (X00 29) (Y00 29) 29 = .inl (z.1, 6, .inl (fun _ => 0)) := rfl
theorem wx_30 (z : TYs) (v : Nat → Nat) (f f2 : Nat → Option Nat) : (WX z v f f2)[off 30]? = some (v 30, .inl (z.1, 6, .inl (fun _ => 0))) := by rw [show off 30 = 16 from by decide]; rfl
theorem wb_c30 (D : va_G) (z : TYs) (v : Nat → Nat) (A : Nat → Prop) (ts : Nat → Nat) : cB (mkK D z v A ts) (X00 30) (Y00 30) 30 = .inl (z.1, 6, .inl (fun _ => 0)) := rfl
theorem wx_31 (z : TYs) (v : Nat → Nat) (f f2 : Nat → Option Nat) : (WX z v f f2)[off 31]? = some (v 31, .inr (3, [.ref (v 3), .ref (v 32), .ref (v 33), .int 0, .int 0, .int 0])) := by rw [show off 31 = 17 from by decide]; rfl
theorem wb_c31 (D : va_G) (z : TYs) (v : Nat → Nat) (A : Nat → Prop) (ts : Nat → Nat) : cB (mkK D z v A ts) (X00 31) (Y00 31) 31 = .inr (3, [.ref (v 3), .ref (v 32), .ref (v 33), .int 0, .int 0, .int 0]) := rfl
theorem wx_32 (z : TYs) (v : Nat → Nat) (f f2 : Nat → Option Nat) : (WX z v f f2)[off 32]? = some (v 32, .inl (z.1, 6, .inl (fun _ => 0))) := by rw [show off 32 = 18 from by decide]; rfl
theorem wb_c32 (D : va_G) (z : TYs) (v : Nat → Nat) (A : Nat → Prop) (ts : Nat → Nat) : cB (mkK D z v A ts) (X00 32) (Y00 32) 32 = .inl (z.1, 6, .inl (fun _ => 0)) := rfl
theorem wx_33 (z : TYs) (v : Nat → Nat) (f f2 : Nat → Option Nat) : (WX z v f f2)[off 33]? = some (v 33, .inl (z.1, 6, .inl (fun _ => 0))) := by rw [show off 33 = 19 from by decide]; rfl
theorem wb_c33 (D : va_G) (z : TYs) (v : Nat → Nat) (A : Nat → Prop) (ts : Nat → Nat) : cB (mkK D z v A ts) (X00 33) (Y00 33) 33 = .inl (z.1, 6, .inl (fun _ => 0)) := rfl
theorem wx_34 (z : TYs) (v : Nat → Nat) (f f2 : Nat → Option Nat) : (WX z v f f2)[off 34]? = some (v 34, .inr (3, [.ref (v 3), .ref (v 35), .ref (v 36), .int 0, .int 0, .int 0])) := by rw [show off 34 = 20 from by decide]; rfl
theorem wb_c34 (D : va_G) (z : TYs) (v : Nat → Nat) (A : Nat → Prop) (ts : Nat → Nat) : cB (mkK D z v A ts) (X00 34) (Y00 34) 34 = .inr (3, [.ref (v 3), .ref (v 35), .ref (v 36), .int 0, .int 0, .int 0]) := rfl
theorem wx_35 (z : TYs) (v : Nat → Nat) (f f2 : Nat → Option Nat) : (WX z v f f2)[off 35]? = some (v 35, .inl (z.1, 6, .inl (fun _ => 0))) := by rw [show off 35 = 21 from by decide]; rfl
theorem wb_c35 (D : va_G) (z : TYs) (v : Nat → Nat) (A : Nat → Prop) (ts : Nat → Nat) : cB (mkK D z v A ts) (X00 35) (Y00 35) 35 = .inl (z.1, 6, .inl (fun _ => 0)) := rfl
theorem wx_36 (z : TYs) (v : Nat → Nat) (f f2 : Nat → Option Nat) : (WX z v f f2)[off 36]? = some (v 36, .inl (z.1, 6, .inl (fun _ => 0))) := by rw [show off 36 = 22 from by decide]; rfl
theorem wb_c36 (D : va_G) (z : TYs) (v : Nat → Nat) (A : Nat → Prop) (ts : Nat → Nat) : cB (mkK D z v A ts) (X00 36) (Y00 36) 36 = .inl (z.1, 6, .inl (fun _ => 0)) := rfl
theorem wx_37 (z : TYs) (v : Nat → Nat) (f f2 : Nat → Option Nat) : (WX z v f f2)[off 37]? = some (v 37, .inr (3, [.ref (v 3), .ref (v 38), .ref (v 39), .int 0, .int 0, .int 0])) := by rw [show off 37 = 23 from by decide]; rfl
theorem wb_c37 (D : va_G) (z : TYs) (v : Nat → Nat) (A : Nat → Prop) (ts : Nat → Nat) : cB (mkK D z v A ts) (X00 37) (Y00 37) 37 = .inr (3, [.ref (v 3), .ref (v 38), .ref (v 39), .int 0, .int 0, .int 0]) := rfl
theorem wx_38 (z : TYs) (v : Nat → Nat) (f f2 : Nat → Option Nat) : (WX z v f f2)[off 38]? = some (v 38, .inl (z.1, 6, .inl (fun _ => 0))) := by rw [show off 38 = 24 from by decide]; rfl
theorem wb_c38 (D : va_G) (z : TYs) (v : Nat → Nat) (A : Nat → Prop) (ts : Nat → Nat) : cB (mkK D z v A ts) (X00 38) (Y00 38) 38 = .inl (z.1, 6, .inl (fun _ => 0)) := rfl
theorem wx_39 (z : TYs) (v : Nat → Nat) (f f2 : Nat → Option Nat) : (WX z v f f2)[off 39]? = some (v 39, .inl (z.1, 6, .inl (fun _ => 0))) := by rw [show off 39 = 25 from by decide]; rfl
theorem wb_c39 (D : va_G) (z : TYs) (v : Nat → Nat) (A : Nat → Prop) (ts : Nat → Nat) : cB (mkK D z v A ts) (X00 39) (Y00 39) 39 = .inl (z.1, 6, .inl (fun _ => 0)) := rfl
theorem wx_40 (z : TYs) (v : Nat → Nat) (f f2 : Nat → Option Nat) : (WX z v f f2)[off 40]? = some (v 40, .inr (3, [.ref (v 3), .ref (v 41), .ref (v 42), .int 0, .int 0, .int 0])) := by rw [show off 40 = 26 from by decide]; rfl
theorem wb_c40 (D : va_G) (z : TYs) (v : Nat → Nat) (A : Nat → Prop) (ts : Nat → Nat) : cB (mkK D z v A ts) (X00 40) (Y00 40) 40 = .inr (3, [.ref (v 3), .ref (v 41), .ref (v 42), .int 0, .int 0, .int 0]) := rfl
theorem wx_41 (z : TYs) (v : Nat → Nat) (f f2 : Nat → Option Nat) : (WX z v f f2)[off 41]? = some (v 41, .inl (z.1, 6, .inl (fun _ => 0))) := by rw [show off 41 = 27 from by decide]; rfl
theorem wb_c41 (D : va_G) (z : TYs) (v : Nat → Nat) (A : Nat → Prop) (ts : Nat → Nat) : cB (mkK D z v A ts) (X00 41) (Y00 41) 41 = .inl (z.1, 6, .inl (fun _ => 0)) := rfl
theorem wx_42 (z : TYs) (v : Nat → Nat) (f f2 : Nat → Option Nat) : (WX z v f f2)[off 42]? = some (v 42, .inl (z.1, 6, .inl (fun _ => 0))) := by rw [show off 42 = 28 from by decide]; rfl
theorem wb_c42 (D : va_G) (z : TYs) (v : Nat → Nat) (A : Nat → Prop) (ts : Nat → Nat) : cB (mkK D z v A ts) (X00 42) (Y00 42) 42 = .inl (z.1, 6, .inl (fun _ => 0)) := rfl
theorem wx_43 (z : TYs) (v : Nat → Nat) (f f2 : Nat → Option Nat) : (WX z v f f2)[off 43]? = some (v 43, .inr (3, [.ref (v 3), .ref (v 44), .ref (v 45), .int 0, .int 0, .int 0])) := by rw [show off 43 = 29 from by decide]; rfl
theorem wb_c43 (D : va_G) (z : TYs) (v : Nat → Nat) (A : Nat → Prop) (ts : Nat → Nat) : cB (mkK D z v A ts) (X00 43) (Y00 43) 43 = .inr (3, [.ref (v 3), .ref (v 44), .ref (v 45), .int 0, .int 0, .int 0]) := rfl
theorem wx_44 (z : TYs) (v : Nat → Nat) (f f2 : Nat → Option Nat) : (WX z v f f2)[off 44]? = some (v 44, .inl (z.1, 6, .inl (fun _ => 0))) := by rw [show off 44 = 30 from by decide]; rfl
theorem wb_c44 (D : va_G) (z : TYs) (v : Nat → Nat) (A : Nat → Prop) (ts : Nat → Nat) : cB (mkK D z v A ts) (X00 44) (Y00 44) 44 = .inl (z.1, 6, .inl (fun _ => 0)) := rfl
theorem wx_45 (z : TYs) (v : Nat → Nat) (f f2 : Nat → Option Nat) : (WX z v f f2)[off 45]? = some (v 45, .inl (z.1, 6, .inl (fun _ => 0))) := by rw [show off 45 = 31 from by decide]; rfl
theorem wb_c45 (D : va_G) (z : TYs) (v : Nat → Nat) (A : Nat → Prop) (ts : Nat → Nat) : cB (mkK D z v A ts) (X00 45) (Y00 45) 45 = .inl (z.1, 6, .inl (fun _ => 0)) := rfl
theorem wx_46 (z : TYs) (v : Nat → Nat) (f f2 : Nat → Option Nat) : (WX z v f f2)[off 46]? = some (v 46, .inr (3, [.ref (v 3), .ref (v 47), .ref (v 48), .int 0, .int 0, .int 0])) := by rw [show off 46 = 32 from by decide]; rfl
theorem wb_c46 (D : va_G) (z : TYs) (v : Nat → Nat) (A : Nat → Prop) (ts : Nat → Nat) : cB (mkK D z v A ts) (X00 46) (Y00 46) 46 = .inr (3, [.ref (v 3), .ref (v 47), .ref (v 48), .int 0, .int 0, .int 0]) := rfl
theorem wx_47 (z : TYs) (v : Nat → Nat) (f f2 : Nat → Option Nat) : (WX z v f f2)[off 47]? = some (v 47, .inl (z.1, 6, .inl (fun _ => 0))) := by rw [show off 47 = 33 from by decide]; rfl
theorem wb_c47 (D : va_G) (z : TYs) (v : Nat → Nat) (A : Nat → Prop) (ts : Nat → Nat) : cB (mkK D z v A ts) (X00 47) (Y00 47) 47 = .inl (z.1, 6, .inl (fun _ => 0)) := rfl
theorem wx_48 (z : TYs) (v : Nat → Nat) (f f2 : Nat → Option Nat) : (WX z v f f2)[off 48]? = some (v 48, .inl (z.1, 6, .inl (fun _ => 0))) := by rw [show off 48 = 34 from by decide]; rfl
theorem wb_c48 (D : va_G) (z : TYs) (v : Nat → Nat) (A : Nat → Prop) (ts : Nat → Nat) : cB (mkK D z v A ts) (X00 48) (Y00 48) 48 = .inl (z.1, 6, .inl (fun _ => 0)) := rfl
theorem wx_49 (z : TYs) (v : Nat → Nat) (f f2 : Nat → Option Nat) : (WX z v f f2)[off 49]? = some (v 49, .inr (3, [.ref (v 3), .ref (v 50), .ref (v 51), .int 0, .int 0, .int 0])) := by rw [show off 49 = 35 from by decide]; rfl
theorem wb_c49 (D : va_G) (z : TYs) (v : Nat → Nat) (A : Nat → Prop) (ts : Nat → Nat) : cB (mkK D z v A ts) (X00 49) (Y00 49) 49 = .inr (3, [.ref (v 3), .ref (v 50), .ref (v 51), .int 0, .int 0, .int 0]) := rfl
theorem wx_50 (z : TYs) (v : Nat → Nat) (f f2 : Nat → Option Nat) : (WX z v f f2)[off 50]? = some (v 50, .inl (z.1, 6, .inl (fun _ => 0))) := by rw [show off 50 = 36 from by decide]; rfl
theorem wb_c50 (D : va_G) (z : TYs) (v : Nat → Nat) (A : Nat → Prop) (ts : Nat → Nat) : cB (mkK D z v A ts) (X00 50) (Y00 50) 50 = .inl (z.1, 6, .inl (fun _ => 0)) := rfl
theorem wx_51 (z : TYs) (v : Nat → Nat) (f f2 : Nat → Option Nat) : (WX z v f f2)[off 51]? = some (v 51, .inl (z.1, 6, .inl (fun _ => 0))) := by rw [show off 51 = 37 from by decide]; rfl
theorem wb_c51 (D : va_G) (z : TYs) (v : Nat → Nat) (A : Nat → Prop) (ts : Nat → Nat) : cB (mkK D z v A ts) (X00 51) (Y00 51) 51 = .inl (z.1, 6, .inl (fun _ => 0)) := rfl
theorem wx_52 (z : TYs) (v : Nat → Nat) (f f2 : Nat → Option Nat) : (WX z v f f2)[off 52]? = some (v 52, .inr (3, [.ref (v 3), .ref (v 53), .ref (v 54), .int 0, .int 0, .int 0])) := by rw [show off 52 = 38 from by decide]; rfl
theorem wb_c52 (D : va_G) (z : TYs) (v : Nat → Nat) (A : Nat → Prop) (ts : Nat → Nat) : cB (mkK D z v A ts) (X00 52) (Y00 52) 52 = .inr (3, [.ref (v 3), .ref (v 53), .ref (v 54), .int 0, .int 0, .int 0]) := rfl
theorem wx_53 (z : TYs) (v : Nat → Nat) (f f2 : Nat → Option Nat) : (WX z v f f2)[off 53]? = some (v 53, .inl (z.1, 6, .inl (fun _ => 0))) := by rw [show off 53 = 39 from by decide]; rfl
theorem wb_c53 (D : va_G) (z : TYs) (v : Nat → Nat) (A : Nat → Prop) (ts : Nat → Nat) : cB (mkK D z v A ts) (X00 53) (Y00 53) 53 = .inl (z.1, 6, .inl (fun _ => 0)) := rfl
theorem wx_54 (z : TYs) (v : Nat → Nat) (f f2 : Nat → Option Nat) : (WX z v f f2)[off 54]? = some (v 54, .inl (z.1, 6, .inl (fun _ => 0))) := by rw [show off 54 = 40 from by decide]; rfl
theorem wb_c54 (D : va_G) (z : TYs) (v : Nat → Nat) (A : Nat → Prop) (ts : Nat → Nat) : cB (mkK D z v A ts) (X00 54) (Y00 54) 54 = .inl (z.1, 6, .inl (fun _ => 0)) := rfl
theorem wx_55 (z : TYs) (v : Nat → Nat) (f f2 : Nat → Option Nat) : (WX z v f f2)[off 55]? = some (v 55, .inr (3, [.ref (v 3), .ref (v 56), .ref (v 57), .int 0, .int 0, .int 0])) := by rw [show off 55 = 41 from by decide]; rfl
theorem wb_c55 (D : va_G) (z : TYs) (v : Nat → Nat) (A : Nat → Prop) (ts : Nat → Nat) : cB (mkK D z v A ts) (X00 55) (Y00 55) 55 = .inr (3, [.ref (v 3), .ref (v 56), .ref (v 57), .int 0, .int 0, .int 0]) := rfl
theorem wx_56 (z : TYs) (v : Nat → Nat) (f f2 : Nat → Option Nat) : (WX z v f f2)[off 56]? = some (v 56, .inl (z.1, 6, .inl (fun _ => 0))) := by rw [show off 56 = 42 from by decide]; rfl
theorem wb_c56 (D : va_G) (z : TYs) (v : Nat → Nat) (A : Nat → Prop) (ts : Nat → Nat) : cB (mkK D z v A ts) (X00 56) (Y00 56) 56 = .inl (z.1, 6, .inl (fun _ => 0)) := rfl
theorem wx_57 (z : TYs) (v : Nat → Nat) (f f2 : Nat → Option Nat) : (WX z v f f2)[off 57]? = some (v 57, .inl (z.1, 6, .inl (fun _ => 0))) := by rw [show off 57 = 43 from by decide]; rfl
theorem wb_c57 (D : va_G) (z : TYs) (v : Nat → Nat) (A : Nat → Prop) (ts : Nat → Nat) : cB (mkK D z v A ts) (X00 57) (Y00 57) 57 = .inl (z.1, 6, .inl (fun _ => 0)) := rfl
theorem wx_58 (z : TYs) (v : Nat → Nat) (f f2 : Nat → Option Nat) : (WX z v f f2)[off 58]? = some (v 58, .inr (3, [.ref (v 3), .ref (v 59), .ref (v 60), .int 0, .int 0, .int 0])) := by rw [show off 58 = 44 from by decide]; rfl
theorem wb_c58 (D : va_G) (z : TYs) (v : Nat → Nat) (A : Nat → Prop) (ts : Nat → Nat) : cB (mkK D z v A ts) (X00 58) (Y00 58) 58 = .inr (3, [.ref (v 3), .ref (v 59), .ref (v 60), .int 0, .int 0, .int 0]) := rfl
theorem wx_59 (z : TYs) (v : Nat → Nat) (f f2 : Nat → Option Nat) : (WX z v f f2)[off 59]? = some (v 59, .inl (z.1, 6, .inl (fun _ => 0))) := by rw [show off 59 = 45 from by decide]; rfl
theorem wb_c59 (D : va_G) (z : TYs) (v : Nat → Nat) (A : Nat → Prop) (ts : Nat → Nat) : cB (mkK D z v A ts) (X00 59) (Y00 59) 59 = .inl (z.1, 6, .inl (fun _ => 0)) := rfl
theorem wx_60 (z : TYs) (v : Nat → Nat) (f f2 : Nat → Option Nat) : (WX z v f f2)[off 60]? = some (v 60, .inl (z.1, 6, .inl (fun _ => 0))) := by rw [show off 60 = 46 from by decide]; rfl
theorem wb_c60 (D : va_G) (z : TYs) (v : Nat → Nat) (A : Nat → Prop) (ts : Nat → Nat) : cB (mkK D z v A ts) (X00 60) (Y00 60) 60 = .inl (z.1, 6, .inl (fun _ => 0)) := rfl
theorem wx_61 (z : TYs) (v : Nat → Nat) (f f2 : Nat → Option Nat) : (WX z v f f2)[off 61]? = some (v 61, .inr (3, [.ref (v 3), .ref (v 62), .ref (v 63), .int 0, .int 0, .int 0])) := by rw [show off 61 = 47 from by decide]; rfl
theorem wb_c61 (D : va_G) (z : TYs) (v : Nat → Nat) (A : Nat → Prop) (ts : Nat → Nat) : cB (mkK D z v A ts) (X00 61) (Y00 61) 61 = .inr (3, [.ref (v 3), .ref (v 62), .ref (v 63), .int 0, .int 0, .int 0]) := rfl
theorem wx_62 (z : TYs) (v : Nat → Nat) (f f2 : Nat → Option Nat) : (WX z v f f2)[off 62]? = some (v 62, .inl (z.1, 6, .inl (fun _ => 0))) := by rw [show off 62 = 48 from by decide]; rfl
theorem wb_c62 (D : va_G) (z : TYs) (v : Nat → Nat) (A : Nat → Prop) (ts : Nat → Nat) : cB (mkK D z v A ts) (X00 62) (Y00 62) 62 = .inl (z.1, 6, .inl (fun _ => 0)) := rfl
theorem wx_63 (z : TYs) (v : Nat → Nat) (f f2 : Nat → Option Nat) : (WX z v f f2)[off 63]? = some (v 63, .inl (z.1, 6, .inl (fun _ => 0))) := by rw [show off 63 = 49 from by decide]; rfl
theorem wb_c63 (D : va_G) (z : TYs) (v : Nat → Nat) (A : Nat → Prop) (ts : Nat → Nat) : cB (mkK D z v A ts) (X00 63) (Y00 63) 63 = .inl (z.1, 6, .inl (fun _ => 0)) := rfl
theorem wx_64 (z : TYs) (v : Nat → Nat) (f f2 : Nat → Option Nat) : (WX z v f f2)[off 64]? = some (v 64, .inr (3, [.ref (v 3), .ref (v 65), .ref (v 66), .int 0, .int 0, .int 0])) := by rw [show off 64 = 50 from by decide]; rfl
theorem wb_c64 (D : va_G) (z : TYs) (v : Nat → Nat) (A : Nat → Prop) (ts : Nat → Nat) : cB (mkK D z v A ts) (X00 64) (Y00 64) 64 = .inr (3, [.ref (v 3), .ref (v 65), .ref (v 66), .int 0, .int 0, .int 0]) := rfl
theorem wx_65 (z : TYs) (v : Nat → Nat) (f f2 : Nat → Option Nat) : (WX z v f f2)[off 65]? = some (v 65, .inl (z.1, 6, .inl (fun _ => 0))) := by rw [show off 65 = 51 from by decide]; rfl
theorem wb_c65 (D : va_G) (z : TYs) (v : Nat → Nat) (A : Nat → Prop) (ts : Nat → Nat) : cB (mkK D z v A ts) (X00 65) (Y00 65) 65 = .inl (z.1, 6, .inl (fun _ => 0)) := rfl
theorem wx_66 (z : TYs) (v : Nat → Nat) (f f2 : Nat → Option Nat) : (WX z v f f2)[off 66]? = some (v 66, .inl (z.1, 6, .inl (fun _ => 0))) := by rw [show off 66 = 52 from by decide]; rfl
theorem wb_c66 (D : va_G) (z : TYs) (v : Nat → Nat) (A : Nat → Prop) (ts : Nat → Nat) : cB (mkK D z v A ts) (X00 66) (Y00 66) 66 = .inl (z.1, 6, .inl (fun _ => 0)) := rfl
theorem wx_67 (z : TYs) (v : Nat → Nat) (f f2 : Nat → Option Nat) : (WX z v f f2)[off 67]? = some (v 67, .inr (3, [.ref (v 3), .ref (v 68), .ref (v 69), .int 0, .int 0, .int 0])) := by rw [show off 67 = 53 from by decide]; rfl
theorem wb_c67 (D : va_G) (z : TYs) (v : Nat → Nat) (A : Nat → Prop) (ts : Nat → Nat) : cB (mkK D z v A ts) (X00 67) (Y00 67) 67 = .inr (3, [.ref (v 3), .ref (v 68), .ref (v 69), .int 0, .int 0, .int 0]) := rfl
theorem wx_68 (z : TYs) (v : Nat → Nat) (f f2 : Nat → Option Nat) : (WX z v f f2)[off 68]? = some (v 68, .inl (z.1, 6, .inl (fun _ => 0))) := by rw [show off 68 = 54 from by decide]; rfl
theorem wb_c68 (D : va_G) (z : TYs) (v : Nat → Nat) (A : Nat → Prop) (ts : Nat → Nat) : cB (mkK D z v A ts) (X00 68) (Y00 68) 68 = .inl (z.1, 6, .inl (fun _ => 0)) := rfl
theorem wx_69 (z : TYs) (v : Nat → Nat) (f f2 : Nat → Option Nat) : (WX z v f f2)[off 69]? = some (v 69, .inl (z.1, 6, .inl (fun _ => 0))) := by rw [show off 69 = 55 from by decide]; rfl
theorem wb_c69 (D : va_G) (z : TYs) (v : Nat → Nat) (A : Nat → Prop) (ts : Nat → Nat) : cB (mkK D z v A ts) (X00 69) (Y00 69) 69 = .inl (z.1, 6, .inl (fun _ => 0)) := rfl
theorem wx_70 (z : TYs) (v : Nat → Nat) (f f2 : Nat → Option Nat) : (WX z v f f2)[off 70]? = some (v 70, .inr (6, [.int 0, .ref (v 71), .int 0, .int 0, .int 0, .ref (v 72), .int 0, .ref (v 73), .int 0, .ref (v 74), .int 0, .ref (v 75), .ref (v 76), .ref (v 77), .ref (v 78), .int 0, .ref (v 79), .ref (v 80), .int 0, .ref (v 81), .ref (v 82), .ref (v 83), .long 0, .int 0, .int 0, .int 0, .int 0, .int 0, .int 0, .ref (v 84), .ref (v 85)])) := by rw [show off 70 = 70 from by decide]; rfl
theorem wb_c70 (D : va_G) (z : TYs) (v : Nat → Nat) (A : Nat → Prop) (ts : Nat → Nat) : cB (mkK D z v A ts) (X00 70) (Y00 70) 70 = .inr (6, [.int 0, .ref (v 71), .int 0, .int 0, .int 0, .ref (v 72), .int 0, .ref (v 73), .int 0, .ref (v 74), .int 0, .ref (v 75), .ref (v 76), .ref (v 77), .ref (v 78), .int 0, .ref (v 79), .ref (v 80), .int 0, .ref (v 81), .ref (v 82), .ref (v 83), .long 0, .int 0, .int 0, .int 0, .int 0, .int 0, .int 0, .ref (v 84), .ref (v 85)]) := rfl
theorem wx_71 (z : TYs) (v : Nat → Nat) (f f2 : Nat → Option Nat) : (WX z v f f2)[off 71]? = some (v 71, .inl (z.1, 36, .inl (fun _ => 0))) := by rw [show off 71 = 71 from by decide]; rfl
theorem wb_c71 (D : va_G) (z : TYs) (v : Nat → Nat) (A : Nat → Prop) (ts : Nat → Nat) : cB (mkK D z v A ts) (X00 71) (Y00 71) 71 = .inl (z.1, 36, .inl (fun _ => 0)) := rfl
theorem wx_72 (z : TYs) (v : Nat → Nat) (f f2 : Nat → Option Nat) : (WX z v f f2)[off 72]? = some (v 72, .inl (z.1, 6, .inl (fun _ => 0))) := by rw [show off 72 = 72 from by decide]; rfl
theorem wb_c72 (D : va_G) (z : TYs) (v : Nat → Nat) (A : Nat → Prop) (ts : Nat → Nat) : cB (mkK D z v A ts) (X00 72) (Y00 72) 72 = .inl (z.1, 6, .inl (fun _ => 0)) := rfl
theorem wx_73 (z : TYs) (v : Nat → Nat) (f f2 : Nat → Option Nat) : (WX z v f f2)[off 73]? = some (v 73, .inl (z.1, 5, .inl (fun _ => 0))) := by rw [show off 73 = 73 from by decide]; rfl
theorem wb_c73 (D : va_G) (z : TYs) (v : Nat → Nat) (A : Nat → Prop) (ts : Nat → Nat) : cB (mkK D z v A ts) (X00 73) (Y00 73) 73 = .inl (z.1, 5, .inl (fun _ => 0)) := rfl
theorem wx_74 (z : TYs) (v : Nat → Nat) (f f2 : Nat → Option Nat) : (WX z v f f2)[off 74]? = some (v 74, .inl (z.1, 18, .inl (fun _ => 0))) := by rw [show off 74 = 74 from by decide]; rfl
theorem wb_c74 (D : va_G) (z : TYs) (v : Nat → Nat) (A : Nat → Prop) (ts : Nat → Nat) : cB (mkK D z v A ts) (X00 74) (Y00 74) 74 = .inl (z.1, 18, .inl (fun _ => 0)) := rfl
theorem wx_75 (z : TYs) (v : Nat → Nat) (f f2 : Nat → Option Nat) : (WX z v f f2)[off 75]? = some (v 75, .inl (z.1, 5, .inl (fun _ => 0))) := by rw [show off 75 = 75 from by decide]; rfl
theorem wb_c75 (D : va_G) (z : TYs) (v : Nat → Nat) (A : Nat → Prop) (ts : Nat → Nat) : cB (mkK D z v A ts) (X00 75) (Y00 75) 75 = .inl (z.1, 5, .inl (fun _ => 0)) := rfl
theorem wx_76 (z : TYs) (v : Nat → Nat) (f f2 : Nat → Option Nat) : (WX z v f f2)[off 76]? = some (v 76, .inl (z.1, 15, .inl (fun _ => 0))) := by rw [show off 76 = 76 from by decide]; rfl
theorem wb_c76 (D : va_G) (z : TYs) (v : Nat → Nat) (A : Nat → Prop) (ts : Nat → Nat) : cB (mkK D z v A ts) (X00 76) (Y00 76) 76 = .inl (z.1, 15, .inl (fun _ => 0)) := rfl
theorem wx_77 (z : TYs) (v : Nat → Nat) (f f2 : Nat → Option Nat) : (WX z v f f2)[off 77]? = some (v 77, .inl (z.1, 15, .inl (fun _ => 0))) := by rw [show off 77 = 77 from by decide]; rfl
theorem wb_c77 (D : va_G) (z : TYs) (v : Nat → Nat) (A : Nat → Prop) (ts : Nat → Nat) : cB (mkK D z v A ts) (X00 77) (Y00 77) 77 = .inl (z.1, 15, .inl (fun _ => 0)) := rfl
theorem wx_78 (z : TYs) (v : Nat → Nat) (f f2 : Nat → Option Nat) : (WX z v f f2)[off 78]? = some (v 78, .inl (z.1, 210, .inl (fun _ => 0))) := by rw [show off 78 = 78 from by decide]; rfl
theorem wb_c78 (D : va_G) (z : TYs) (v : Nat → Nat) (A : Nat → Prop) (ts : Nat → Nat) : cB (mkK D z v A ts) (X00 78) (Y00 78) 78 = .inl (z.1, 210, .inl (fun _ => 0)) := rfl
theorem wx_79 (z : TYs) (v : Nat → Nat) (f f2 : Nat → Option Nat) : (WX z v f f2)[off 79]? = some (v 79, .inl (z.1, 30, .inl (fun _ => 0))) := by rw [show off 79 = 79 from by decide]; rfl
theorem wb_c79 (D : va_G) (z : TYs) (v : Nat → Nat) (A : Nat → Prop) (ts : Nat → Nat) : cB (mkK D z v A ts) (X00 79) (Y00 79) 79 = .inl (z.1, 30, .inl (fun _ => 0)) := rfl
theorem wx_80 (z : TYs) (v : Nat → Nat) (f f2 : Nat → Option Nat) : (WX z v f f2)[off 80]? = some (v 80, .inl (z.2.1, 2, .inl (fun _ => 0))) := by rw [show off 80 = 80 from by decide]; rfl
theorem wb_c80 (D : va_G) (z : TYs) (v : Nat → Nat) (A : Nat → Prop) (ts : Nat → Nat) : cB (mkK D z v A ts) (X00 80) (Y00 80) 80 = .inl (z.2.1, 2, .inl (fun _ => 0)) := rfl
theorem wx_81 (z : TYs) (v : Nat → Nat) (f f2 : Nat → Option Nat) : (WX z v f f2)[off 81]? = some (v 81, .inl (z.1, 6, .inl (fun _ => 0))) := by rw [show off 81 = 81 from by decide]; rfl
theorem wb_c81 (D : va_G) (z : TYs) (v : Nat → Nat) (A : Nat → Prop) (ts : Nat → Nat) : cB (mkK D z v A ts) (X00 81) (Y00 81) 81 = .inl (z.1, 6, .inl (fun _ => 0)) := rfl
theorem wx_82 (z : TYs) (v : Nat → Nat) (f f2 : Nat → Option Nat) : (WX z v f f2)[off 82]? = some (v 82, .inl (z.1, 6, .inl (fun _ => 0))) := by rw [show off 82 = 82 from by decide]; rfl
theorem wb_c82 (D : va_G) (z : TYs) (v : Nat → Nat) (A : Nat → Prop) (ts : Nat → Nat) : cB (mkK D z v A ts) (X00 82) (Y00 82) 82 = .inl (z.1, 6, .inl (fun _ => 0)) := rfl
theorem wx_83 (z : TYs) (v : Nat → Nat) (f f2 : Nat → Option Nat) : (WX z v f f2)[off 83]? = some (v 83, .inl (z.1, 6, .inl (fun _ => 0))) := by rw [show off 83 = 83 from by decide]; rfl
theorem wb_c83 (D : va_G) (z : TYs) (v : Nat → Nat) (A : Nat → Prop) (ts : Nat → Nat) : cB (mkK D z v A ts) (X00 83) (Y00 83) 83 = .inl (z.1, 6, .inl (fun _ => 0)) := rfl
theorem wx_84 (z : TYs) (v : Nat → Nat) (f f2 : Nat → Option Nat) : (WX z v f f2)[off 84]? = some (v 84, .inl (z.1, 8, .inl (fun _ => 0))) := by rw [show off 84 = 84 from by decide]; rfl
theorem wb_c84 (D : va_G) (z : TYs) (v : Nat → Nat) (A : Nat → Prop) (ts : Nat → Nat) : cB (mkK D z v A ts) (X00 84) (Y00 84) 84 = .inl (z.1, 8, .inl (fun _ => 0)) := rfl
theorem wx_85 (z : TYs) (v : Nat → Nat) (f f2 : Nat → Option Nat) : (WX z v f f2)[off 85]? = some (v 85, .inl (z.1, 64, .inl (fun _ => 0))) := by rw [show off 85 = 85 from by decide]; rfl
theorem wb_c85 (D : va_G) (z : TYs) (v : Nat → Nat) (A : Nat → Prop) (ts : Nat → Nat) : cB (mkK D z v A ts) (X00 85) (Y00 85) 85 = .inl (z.1, 64, .inl (fun _ => 0)) := rfl
theorem wl_all (D : va_G) (z : TYs) (v : Nat → Nat) (A : Nat → Prop) (ts : Nat → Nat) (f f2 : Nat → Option Nat) (hf : ∀ j, j < 14 → f j = some (v (28 + 3 * j))) (hf2 : ∀ j, j < 2 → f2 j = some (v (22 + 3 * j))) : ∀ c, c < 86 → ∃ e, (WL z v f f2)[off c]? = some (v c, e) ∧ ∀ H, va_at D classes (v c, e) H → va_at D classes (v c, cB (mkK D z v A ts) (X00 c) (Y00 c) c) H := by
  have rf : ∀ (n : Nat) (g h : Nat → Option Nat), (∀ j, j < n → g j = h j) → vp_cell z.2.2 (n, .inr (.inr (.inr (.inr g)))) = vp_cell z.2.2 (n, .inr (.inr (.inr (.inr h)))) := by
    intro n g h hgh
    rw [vp_cell_q, vp_cell_q]
    unfold arrV
    congr 1
    apply Array.ext
    · simp
    · intro i h1 h2
      simp only [Array.getElem_ofFn]
      rw [hgh i (by simpa using h1)]
  have at7 : ∀ H, va_at D classes (v 7, rfE z 14 f) H → va_at D classes (v 7, cB (mkK D z v A ts) (X00 7) (Y00 7) 7) H := by
    intro H h
    show H[v 7]? = some (vp_cell z.2.2 (14, .inr (.inr (.inr (.inr (fun i => some (v (rA 7 i))))))))
    rw [← rf 14 f (fun i => some (v (rA 7 i))) (fun j hj => by rw [hf j hj]; rfl)]
    exact h
  have at12 : ∀ H, va_at D classes (v 12, rfE z 2 f2) H → va_at D classes (v 12, cB (mkK D z v A ts) (X00 12) (Y00 12) 12) H := by
    intro H h
    show H[v 12]? = some (vp_cell z.2.2 (2, .inr (.inr (.inr (.inr (fun i => some (v (rA 12 i))))))))
    rw [← rf 2 f2 (fun i => some (v (rA 12 i))) (fun j hj => by rw [hf2 j hj]; rfl)]
    exact h
  intro c hc
  rw [WL_e]
  by_cases h0 : c = 0
  · subst h0
    exact ⟨_, wx_0 z v f f2, fun _ h => by rw [wb_c0]; exact h⟩
  by_cases h1 : c = 1
  · subst h1
    exact ⟨_, wx_1 z v f f2, fun _ h => by rw [wb_c1]; exact h⟩
  by_cases h2 : c = 2
  · subst h2
    exact ⟨_, wx_2 z v f f2, fun _ h => by rw [wb_c2]; exact h⟩
  by_cases h3 : c = 3
  · subst h3
    exact ⟨_, wx_3 z v f f2, fun _ h => by rw [wb_c3]; exact h⟩
  by_cases h4 : c = 4
  · subst h4
    exact ⟨_, wx_4 z v f f2, fun _ h => by rw [wb_c4]; exact h⟩
  by_cases h5 : c = 5
  · subst h5
    exact ⟨_, wx_5 z v f f2, fun _ h => by rw [wb_c5]; exact h⟩
  by_cases h6 : c = 6
  · subst h6
    exact ⟨_, wx_6 z v f f2, fun _ h => by rw [wb_c6]; exact h⟩
  by_cases h7 : c = 7
  · subst h7
    exact ⟨_, wx_7 z v f f2, at7⟩
  by_cases h8 : c = 8
  · subst h8
    exact ⟨_, wx_8 z v f f2, fun _ h => by rw [wb_c8]; exact h⟩
  by_cases h9 : c = 9
  · subst h9
    exact ⟨_, wx_9 z v f f2, fun _ h => by rw [wb_c9]; exact h⟩
  by_cases h10 : c = 10
  · subst h10
    exact ⟨_, wx_10 z v f f2, fun _ h => by rw [wb_c10]; exact h⟩
  by_cases h11 : c = 11
  · subst h11
    exact ⟨_, wx_11 z v f f2, fun _ h => by rw [wb_c11]; exact h⟩
  by_cases h12 : c = 12
  · subst h12
    exact ⟨_, wx_12 z v f f2, at12⟩
  by_cases h13 : c = 13
  · subst h13
    exact ⟨_, wx_13 z v f f2, fun _ h => by rw [wb_c13]; exact h⟩
  by_cases h14 : c = 14
  · subst h14
    exact ⟨_, wx_14 z v f f2, fun _ h => by rw [wb_c14]; exact h⟩
  by_cases h15 : c = 15
  · subst h15
    exact ⟨_, wx_15 z v f f2, fun _ h => by rw [wb_c15]; exact h⟩
  by_cases h16 : c = 16
  · subst h16
    exact ⟨_, wx_16 z v f f2, fun _ h => by rw [wb_c16]; exact h⟩
  by_cases h17 : c = 17
  · subst h17
    exact ⟨_, wx_17 z v f f2, fun _ h => by rw [wb_c17]; exact h⟩
  by_cases h18 : c = 18
  · subst h18
    exact ⟨_, wx_18 z v f f2, fun _ h => by rw [wb_c18]; exact h⟩
  by_cases h19 : c = 19
  · subst h19
    exact ⟨_, wx_19 z v f f2, fun _ h => by rw [wb_c19]; exact h⟩
  by_cases h20 : c = 20
  · subst h20
    exact ⟨_, wx_20 z v f f2, fun _ h => by rw [wb_c20]; exact h⟩
  by_cases h21 : c = 21
  · subst h21
    exact ⟨_, wx_21 z v f f2, fun _ h => by rw [wb_c21]; exact h⟩
  by_cases h22 : c = 22
  · subst h22
    exact ⟨_, wx_22 z v f f2, fun _ h => by rw [wb_c22]; exact h⟩
  by_cases h23 : c = 23
  · subst h23
    exact ⟨_, wx_23 z v f f2, fun _ h => by rw [wb_c23]; exact h⟩
  by_cases h24 : c = 24
  · subst h24
    exact ⟨_, wx_24 z v f f2, fun _ h => by rw [wb_c24]; exact h⟩
  by_cases h25 : c = 25
  · subst h25
    exact ⟨_, wx_25 z v f f2, fun _ h => by rw [wb_c25]; exact h⟩
  by_cases h26 : c = 26
  · subst h26
    exact ⟨_, wx_26 z v f f2, fun _ h => by rw [wb_c26]; exact h⟩
  by_cases h27 : c = 27
  · subst h27
    exact ⟨_, wx_27 z v f f2, fun _ h => by rw [wb_c27]; exact h⟩
  by_cases h28 : c = 28
  · subst h28
    exact ⟨_, wx_28 z v f f2, fun _ h => by rw [wb_c28]; exact h⟩
  by_cases h29 : c = 29
  · subst h29
    exact ⟨_, wx_29 z v f f2, fun _ h => by rw [wb_c29]; exact h⟩
  by_cases h30 : c = 30
  · subst h30
    exact ⟨_, wx_30 z v f f2, fun _ h => by rw [wb_c30]; exact h⟩
  by_cases h31 : c = 31
  · subst h31
    exact ⟨_, wx_31 z v f f2, fun _ h => by rw [wb_c31]; exact h⟩
  by_cases h32 : c = 32
  · subst h32
    exact ⟨_, wx_32 z v f f2, fun _ h => by rw [wb_c32]; exact h⟩
  by_cases h33 : c = 33
  · subst h33
    exact ⟨_, wx_33 z v f f2, fun _ h => by rw [wb_c33]; exact h⟩
  by_cases h34 : c = 34
  · subst h34
    exact ⟨_, wx_34 z v f f2, fun _ h => by rw [wb_c34]; exact h⟩
  by_cases h35 : c = 35
  · subst h35
    exact ⟨_, wx_35 z v f f2, fun _ h => by rw [wb_c35]; exact h⟩
  by_cases h36 : c = 36
  · subst h36
    exact ⟨_, wx_36 z v f f2, fun _ h => by rw [wb_c36]; exact h⟩
  by_cases h37 : c = 37
  · subst h37
    exact ⟨_, wx_37 z v f f2, fun _ h => by rw [wb_c37]; exact h⟩
  by_cases h38 : c = 38
  · subst h38
    exact ⟨_, wx_38 z v f f2, fun _ h => by rw [wb_c38]; exact h⟩
  by_cases h39 : c = 39
  · subst h39
    exact ⟨_, wx_39 z v f f2, fun _ h => by rw [wb_c39]; exact h⟩
  by_cases h40 : c = 40
  · subst h40
    exact ⟨_, wx_40 z v f f2, fun _ h => by rw [wb_c40]; exact h⟩
  by_cases h41 : c = 41
  · subst h41
    exact ⟨_, wx_41 z v f f2, fun _ h => by rw [wb_c41]; exact h⟩
  by_cases h42 : c = 42
  · subst h42
    exact ⟨_, wx_42 z v f f2, fun _ h => by rw [wb_c42]; exact h⟩
  by_cases h43 : c = 43
  · subst h43
    exact ⟨_, wx_43 z v f f2, fun _ h => by rw [wb_c43]; exact h⟩
  by_cases h44 : c = 44
  · subst h44
    exact ⟨_, wx_44 z v f f2, fun _ h => by rw [wb_c44]; exact h⟩
  by_cases h45 : c = 45
  · subst h45
    exact ⟨_, wx_45 z v f f2, fun _ h => by rw [wb_c45]; exact h⟩
  by_cases h46 : c = 46
  · subst h46
    exact ⟨_, wx_46 z v f f2, fun _ h => by rw [wb_c46]; exact h⟩
  by_cases h47 : c = 47
  · subst h47
    exact ⟨_, wx_47 z v f f2, fun _ h => by rw [wb_c47]; exact h⟩
  by_cases h48 : c = 48
  · subst h48
    exact ⟨_, wx_48 z v f f2, fun _ h => by rw [wb_c48]; exact h⟩
  by_cases h49 : c = 49
  · subst h49
    exact ⟨_, wx_49 z v f f2, fun _ h => by rw [wb_c49]; exact h⟩
  by_cases h50 : c = 50
  · subst h50
    exact ⟨_, wx_50 z v f f2, fun _ h => by rw [wb_c50]; exact h⟩
  by_cases h51 : c = 51
  · subst h51
    exact ⟨_, wx_51 z v f f2, fun _ h => by rw [wb_c51]; exact h⟩
  by_cases h52 : c = 52
  · subst h52
    exact ⟨_, wx_52 z v f f2, fun _ h => by rw [wb_c52]; exact h⟩
  by_cases h53 : c = 53
  · subst h53
    exact ⟨_, wx_53 z v f f2, fun _ h => by rw [wb_c53]; exact h⟩
  by_cases h54 : c = 54
  · subst h54
    exact ⟨_, wx_54 z v f f2, fun _ h => by rw [wb_c54]; exact h⟩
  by_cases h55 : c = 55
  · subst h55
    exact ⟨_, wx_55 z v f f2, fun _ h => by rw [wb_c55]; exact h⟩
  by_cases h56 : c = 56
  · subst h56
    exact ⟨_, wx_56 z v f f2, fun _ h => by rw [wb_c56]; exact h⟩
  by_cases h57 : c = 57
  · subst h57
    exact ⟨_, wx_57 z v f f2, fun _ h => by rw [wb_c57]; exact h⟩
  by_cases h58 : c = 58
  · subst h58
    exact ⟨_, wx_58 z v f f2, fun _ h => by rw [wb_c58]; exact h⟩
  by_cases h59 : c = 59
  · subst h59
    exact ⟨_, wx_59 z v f f2, fun _ h => by rw [wb_c59]; exact h⟩
  by_cases h60 : c = 60
  · subst h60
    exact ⟨_, wx_60 z v f f2, fun _ h => by rw [wb_c60]; exact h⟩
  by_cases h61 : c = 61
  · subst h61
    exact ⟨_, wx_61 z v f f2, fun _ h => by rw [wb_c61]; exact h⟩
  by_cases h62 : c = 62
  · subst h62
    exact ⟨_, wx_62 z v f f2, fun _ h => by rw [wb_c62]; exact h⟩
  by_cases h63 : c = 63
  · subst h63
    exact ⟨_, wx_63 z v f f2, fun _ h => by rw [wb_c63]; exact h⟩
  by_cases h64 : c = 64
  · subst h64
    exact ⟨_, wx_64 z v f f2, fun _ h => by rw [wb_c64]; exact h⟩
  by_cases h65 : c = 65
  · subst h65
    exact ⟨_, wx_65 z v f f2, fun _ h => by rw [wb_c65]; exact h⟩
  by_cases h66 : c = 66
  · subst h66
    exact ⟨_, wx_66 z v f f2, fun _ h => by rw [wb_c66]; exact h⟩
  by_cases h67 : c = 67
  · subst h67
    exact ⟨_, wx_67 z v f f2, fun _ h => by rw [wb_c67]; exact h⟩
  by_cases h68 : c = 68
  · subst h68
    exact ⟨_, wx_68 z v f f2, fun _ h => by rw [wb_c68]; exact h⟩
  by_cases h69 : c = 69
  · subst h69
    exact ⟨_, wx_69 z v f f2, fun _ h => by rw [wb_c69]; exact h⟩
  by_cases h70 : c = 70
  · subst h70
    exact ⟨_, wx_70 z v f f2, fun _ h => by rw [wb_c70]; exact h⟩
  by_cases h71 : c = 71
  · subst h71
    exact ⟨_, wx_71 z v f f2, fun _ h => by rw [wb_c71]; exact h⟩
  by_cases h72 : c = 72
  · subst h72
    exact ⟨_, wx_72 z v f f2, fun _ h => by rw [wb_c72]; exact h⟩
  by_cases h73 : c = 73
  · subst h73
    exact ⟨_, wx_73 z v f f2, fun _ h => by rw [wb_c73]; exact h⟩
  by_cases h74 : c = 74
  · subst h74
    exact ⟨_, wx_74 z v f f2, fun _ h => by rw [wb_c74]; exact h⟩
  by_cases h75 : c = 75
  · subst h75
    exact ⟨_, wx_75 z v f f2, fun _ h => by rw [wb_c75]; exact h⟩
  by_cases h76 : c = 76
  · subst h76
    exact ⟨_, wx_76 z v f f2, fun _ h => by rw [wb_c76]; exact h⟩
  by_cases h77 : c = 77
  · subst h77
    exact ⟨_, wx_77 z v f f2, fun _ h => by rw [wb_c77]; exact h⟩
  by_cases h78 : c = 78
  · subst h78
    exact ⟨_, wx_78 z v f f2, fun _ h => by rw [wb_c78]; exact h⟩
  by_cases h79 : c = 79
  · subst h79
    exact ⟨_, wx_79 z v f f2, fun _ h => by rw [wb_c79]; exact h⟩
  by_cases h80 : c = 80
  · subst h80
    exact ⟨_, wx_80 z v f f2, fun _ h => by rw [wb_c80]; exact h⟩
  by_cases h81 : c = 81
  · subst h81
    exact ⟨_, wx_81 z v f f2, fun _ h => by rw [wb_c81]; exact h⟩
  by_cases h82 : c = 82
  · subst h82
    exact ⟨_, wx_82 z v f f2, fun _ h => by rw [wb_c82]; exact h⟩
  by_cases h83 : c = 83
  · subst h83
    exact ⟨_, wx_83 z v f f2, fun _ h => by rw [wb_c83]; exact h⟩
  by_cases h84 : c = 84
  · subst h84
    exact ⟨_, wx_84 z v f f2, fun _ h => by rw [wb_c84]; exact h⟩
  by_cases h85 : c = 85
  · subst h85
    exact ⟨_, wx_85 z v f f2, fun _ h => by rw [wb_c85]; exact h⟩
  exfalso
  omega
theorem wl_P {D : va_G} {z : TYs} {v : Nat → Nat} {A : Nat → Prop} {ts : Nat → Nat} {f f2 : Nat → Option Nat} {H : Heap} (hf : ∀ j, j < 14 → f j = some (v (28 + 3 * j))) (hf2 : ∀ j, j < 2 → f2 j = some (v (22 + 3 * j))) (hP : va_P D classes (WL z v f f2) H) : va_P (kD (mkK D z v A ts)) classes (wsOf (mkK D z v A ts) X00 Y00) H := by
  intro k q hk
  obtain ⟨hlt, rfl⟩ := ws_of hk
  obtain ⟨e, h1, h2⟩ := wl_all D z v A ts f f2 hf hf2 k hlt
  exact h2 H (hP _ _ h1)
theorem wl_K {D : va_G} {z : TYs} {v : Nat → Nat} {A : Nat → Prop} {ts : Nat → Nat} {f f2 : Nat → Option Nat} (hf : ∀ j, j < 14 → f j = some (v (28 + 3 * j))) (hf2 : ∀ j, j < 2 → f2 j = some (v (22 + 3 * j))) (hD : va_D A (WL z v f f2)) : kOK (mkK D z v A ts) := by
  refine ⟨fun a b ha hb h => ?_, fun a ha => ?_⟩
  · obtain ⟨e, h1, -⟩ := wl_all D z v A ts f f2 hf hf2 a ha
    obtain ⟨e', h2, -⟩ := wl_all D z v A ts f f2 hf hf2 b hb
    exact off_inj a ha b hb (hD.1 _ _ _ _ h1 h2 h)
  · obtain ⟨e, h1, -⟩ := wl_all D z v A ts f f2 hf hf2 a ha
    exact hD.2 _ _ h1
theorem len14 {α : Type} (P : List α) (h : P.length = 14) : ∃ t0 t1 t2 t3 t4 t5 t6 t7 t8 t9 t10 t11 t12 t13, P = [t0, t1, t2, t3, t4, t5, t6, t7, t8, t9, t10, t11, t12, t13] := by
  match P, h with
  | [t0, t1, t2, t3, t4, t5, t6, t7, t8, t9, t10, t11, t12, t13], _ => exact ⟨t0, t1, t2, t3, t4, t5, t6, t7, t8, t9, t10, t11, t12, t13, rfl⟩
theorem rel_0 : Rel 0 X00 Y00 := by
  have okg : okG (fun _ => (0 : Int32)) := fun k _ => by show ((0 : Int) ≤ (0 : Int32).toInt ∧ (0 : Int32).toInt ≤ 9) ∧ (0 : Int) ≤ (0 : Int32).toInt ∧ (0 : Int32).toInt ≤ 999; rw [i0]; omega
  refine ⟨0, 0, ⟨⟨rfl, rfl, by omega, by omega, fun _ _ => rfl, fun _ _ => rfl⟩, rfl, rfl, fun k _ => by show (-4 : Int) ≤ (0 : Int32).toInt ∧ (0 : Int32).toInt ≤ 4; rw [i0]; omega⟩, ⟨0, by omega, rfl, rfl, fun k hk => absurd hk (by omega)⟩, ⟨?_, okg, fun _ _ _ => ⟨rfl, rfl⟩, 0, by omega, rfl⟩, ⟨0, 0, by omega, by omega, rfl, rfl, rfl, fun j hj => absurd hj (by omega)⟩, ?_, ⟨0, by omega, rfl, rfl, fun i hi => absurd hi (by omega)⟩, rfl⟩
  · intro k _
    unfold pgC
    show (if k < 6 then (0 : Int32) else if k < 12 then 0 else if k = 12 then 0 else if k = 13 then 0 else 0) = 0
    split
    · rfl
    · split
      · rfl
      · split
        · rfl
        · split <;> rfl
  · intro s _
    exact ⟨rfl, Or.inl rfl, fun h => absurd (show (0 : Int32) = 1 from h) (by decide)⟩
