/-! doings told: judge, years. The first rows are the family wb of kit/laws/BITS.to-paste -/
theorem wb_tb (n : Nat) : (lN n).toBitVec = BitVec.ofNat 64 n := rfl
theorem wb_inj {a b : Int64} (h : a.toBitVec = b.toBitVec) : a = b := Int64.toBitVec_inj.mp h
theorem wb_tn {n : Nat} (h : n < 2 ^ 64) : (lN n).toBitVec.toNat = n := by rw [wb_tb, BitVec.toNat_ofNat, Nat.mod_eq_of_lt h]
theorem wb_of (x : Int64) : ∃ n, n < 2 ^ 64 ∧ x = lN n := ⟨x.toBitVec.toNat, x.toBitVec.isLt, wb_inj (by rw [wb_tb]; simp)⟩
theorem wb_of32 (x : Int32) : ∃ n, n < 2 ^ 32 ∧ x = nI n := ⟨x.toBitVec.toNat, x.toBitVec.isLt, Int32.toBitVec_inj.mp (by show _ = BitVec.ofNat 32 _; simp)⟩
theorem wb_c : ∀ k, k < 64 → ((nI k).toInt64 &&& 63) = lN k := by decide +kernel
theorem wb_cu : ∀ k, k < 64 → ((nI k).toInt64.toUInt64 &&& Int64.toUInt64 63) = UInt64.ofNat k := by decide +kernel
theorem wb_sm : ∀ k, k < 64 → (BitVec.ofNat 64 k).smod 64 = BitVec.ofNat 64 k := by decide +kernel
theorem wb_pw {a b : Nat} (h : a ≤ b) : 2 ^ b = 2 ^ a * 2 ^ (b - a) := by rw [← Nat.pow_add]; congr 1; omega
theorem wb_lt2 {a b : Nat} (h : a < b) : 2 ^ a < 2 ^ b := Nat.pow_lt_pow_right (by decide) h
theorem wb_mod (n : Nat) : lN n = lN (n % 2 ^ 64) := wb_inj (by rw [wb_tb, wb_tb]; apply BitVec.eq_of_toNat_eq; rw [BitVec.toNat_ofNat, BitVec.toNat_ofNat, Nat.mod_mod])
theorem wb_shr {n k : Nat} (hn : n < 2 ^ 64) (hk : k < 64) : ((lN n).toUInt64 >>> ((nI k).toInt64.toUInt64 &&& Int64.toUInt64 63)).toInt64 = lN (n / 2 ^ k) := by
  rw [wb_cu k hk]
  apply wb_inj
  apply BitVec.eq_of_toNat_eq
  show ((lN n).toUInt64 >>> UInt64.ofNat k).toNat = (BitVec.ofNat 64 _).toNat
  have h1 : (UInt64.ofNat k).toNat = k := by
    show (BitVec.ofNat 64 k).toNat = k
    rw [BitVec.toNat_ofNat, Nat.mod_eq_of_lt (by omega)]
  have h2 : (lN n).toUInt64.toNat = n := wb_tn hn
  rw [UInt64.toNat_shiftRight, h1, h2, Nat.mod_eq_of_lt hk, Nat.shiftRight_eq_div_pow, BitVec.toNat_ofNat, Nat.mod_eq_of_lt (Nat.lt_of_le_of_lt (Nat.div_le_self _ _) hn)]
def doR (n m : Nat) (kd sk g : Pg) (w a b : Nat) : Bool × Pg :=
  if w = 0 then (if a = 0 ∧ b = 0 then (true, dayP n m kd sk g false) else (false, g))
  else if w = 1 then (if a = 0 ∧ 0 < n ∧ 1 ≤ b ∧ ¬ rmP kd g 0 < nI b then (true, flP g 0 (nI b) ((2 : Int32) * nI b)) else (false, g))
  else if w = 2 then (if a + 1 < n ∧ 1 ≤ b ∧ ¬ g a < nI b ∧ ¬ rmP kd g (a + 1) < nI b then (true, leP g a (nI b)) else (false, g))
  else if w = 3 then (if a = 0 ∧ b + 1 < n then (true, tuP g b) else (false, g))
  else if w = 4 then (if a = 0 ∧ b < n ∧ rkB g b = true then (true, raP g b) else (false, g))
  else if w = 5 then (if a < n ∧ ¬ g a < nI b then (true, g) else (false, g))
  else if w = 6 then (if a < n ∧ ¬ crP g a < (10 : Int32) * nI b then (true, g) else (false, g))
  else (false, g)
def doV (n m : Nat) (kd sk g : Pg) (v : Nat) : Bool × Pg := doR n m kd sk g (v / 100) (v / 10 % 10) (v % 10)
def b01 (b : Bool) : Int32 := if b then 1 else 0
theorem ft_nI {b : Nat} (hb : b ≤ 9) : ft (nI b) 1 9 = decide (1 ≤ b) := by
  rcases (show b = 0 ∨ b = 1 ∨ b = 2 ∨ b = 3 ∨ b = 4 ∨ b = 5 ∨ b = 6 ∨ b = 7 ∨ b = 8 ∨ b = 9 by omega) with rfl | rfl | rfl | rfl | rfl | rfl | rfl | rfl | rfl | rfl <;> decide
theorem inN_nI {b n : Nat} (hb : b < 2 ^ 31) : (0 ≤ (nI b).toInt ∧ (nI b).toInt < n) ↔ b < n := by
  rw [nI_toInt hb]
  omega
section DO
variable {X : HI} {Y : HL} {n m : Nat} {kd sk g : Pg} {w a b t : Nat}
theorem c_seaY (hE : EC n m kd sk X) (hok : okG g) (hb : b ≤ 9) (h : 0 < n ∧ 1 ≤ b ∧ ¬ rmP kd g 0 < nI b) : ∃ r, ¬ r < 0 ∧ f_Pan_takeSea 19 (nI b) (setC X 19 g) Y = rI r (setC X 19 (flP g 0 (nI b) ((2 : Int32) * nI b))) Y := by
  have e := s_takeSea (Y := Y) (g := g) isP_19 hE h.1 (nI b)
  unfold seaR at e
  rw [if_neg (by rw [ft_nI hb]; simp; omega), if_neg h.2.2] at e
  refine ⟨_, ?_, e⟩
  obtain ⟨⟨c1, c2⟩, _⟩ := hok 0 (by omega)
  have t1 := nI_toInt (n := b) (by omega)
  show ¬ g 0 + nI b < 0
  apply nneg
  rw [i_add (by omega) (by omega)]
  omega
theorem c_seaN (hE : EC n m kd sk X) (hb : b ≤ 9) (h : ¬ (0 < n ∧ 1 ≤ b ∧ ¬ rmP kd g 0 < nI b)) : ∃ r, r < 0 ∧ f_Pan_takeSea 19 (nI b) (setC X 19 g) Y = rI r (setC X 19 g) Y := by
  by_cases hn : n = 0
  · exact ⟨-1, by decide, s_takeSeaN isP_19 hE hn _⟩
  · have e := s_takeSea (Y := Y) (g := g) isP_19 hE (by omega : 0 < n) (nI b)
    unfold seaR at e
    by_cases h1 : 1 ≤ b
    · rw [if_neg (by rw [ft_nI hb]; simp; omega)] at e
      have h3 : rmP kd g 0 < nI b := by
        by_cases h3 : rmP kd g 0 < nI b
        · exact h3
        · exact absurd ⟨by omega, h1, h3⟩ h
      rw [if_pos h3] at e
      exact ⟨-4, by decide, e⟩
    · rw [if_pos (by rw [ft_nI hb]; simp; omega)] at e
      exact ⟨-2, by decide, e⟩
theorem c_letY (hE : EC n m kd sk X) (hok : okG g) (hb : b ≤ 9) (h : a + 1 < n ∧ 1 ≤ b ∧ ¬ g a < nI b ∧ ¬ rmP kd g (a + 1) < nI b) : ∃ r, ¬ r < 0 ∧ f_Pan_letOn 19 (nI a) (nI b) (setC X 19 g) Y = rI r (setC X 19 (leP g a (nI b))) Y := by
  have n6 := hE.2.2.1
  have e := s_letOn (Y := Y) (g := g) isP_19 hE h.1 (nI b)
  unfold letR at e
  rw [if_neg (by rw [ft_nI hb]; simp; omega), if_neg h.2.2.1, if_neg h.2.2.2] at e
  refine ⟨_, ?_, e⟩
  have t1 := nI_toInt (n := b) (by omega)
  have h2 := h.2.2.1
  rw [i_lt] at h2
  exact nneg (goP_b hok (by omega) (by omega) (by omega)).1
theorem c_letN (hE : EC n m kd sk X) (ha : a < 2 ^ 31) (hb : b ≤ 9) (h : ¬ (a + 1 < n ∧ 1 ≤ b ∧ ¬ g a < nI b ∧ ¬ rmP kd g (a + 1) < nI b)) : ∃ r, r < 0 ∧ f_Pan_letOn 19 (nI a) (nI b) (setC X 19 g) Y = rI r (setC X 19 g) Y := by
  by_cases hn : a + 1 < n
  · have e := s_letOn (Y := Y) (g := g) isP_19 hE hn (nI b)
    unfold letR at e
    by_cases h1 : 1 ≤ b
    · rw [if_neg (by rw [ft_nI hb]; simp; omega)] at e
      by_cases h2 : g a < nI b
      · rw [if_pos h2] at e
        exact ⟨-3, by decide, e⟩
      · rw [if_neg h2] at e
        have h3 : rmP kd g (a + 1) < nI b := by
          by_cases h3 : rmP kd g (a + 1) < nI b
          · exact h3
          · exact absurd ⟨hn, h1, h2, h3⟩ h
        rw [if_pos h3] at e
        exact ⟨-4, by decide, e⟩
    · rw [if_pos (by rw [ft_nI hb]; simp; omega)] at e
      exact ⟨-2, by decide, e⟩
  · exact ⟨-1, by decide, s_letOnN isP_19 hE (by rw [inN_nI ha]; omega) _⟩
theorem s_isDone (hE : EC n m kd sk X) (hok : okG g) (ht : t < 2 ^ 31) (hg : g 14 = nI t) (hw : w ≤ 9) (ha : a ≤ 9) (hb : b ≤ 9) : f_Pan_isDone 19 (nI w) (nI a) (nI b) (setC X 19 g) Y = rI (b01 (doR n m kd sk g w a b).1) (setC X 19 (doR n m kd sk g w a b).2) Y := by
  have n6 := hE.2.2.1
  have key : b_Pan_isDone_9 19 (nI w) (nI a) (nI b) (if a = 0 then 1 else 0) (setC X 19 g) Y = rI (b01 (doR n m kd sk g w a b).1) (setC X 19 (doR n m kd sk g w a b).2) Y := by
    have pl0 : ∀ h : a = 0, ¬ (if a = 0 then (1 : Int32) else 0) = 0 := fun h => by rw [if_pos h]; decide
    have pl1 : ∀ h : ¬ a = 0, (if a = 0 then (1 : Int32) else 0) = 0 := fun h => by rw [if_neg h]
    unfold b_Pan_isDone_9 doR
    by_cases w0 : w = 0
    · subst w0
      rw [if_pos (show nI 0 = (0 : Int32) from rfl), if_pos rfl]
      by_cases a0 : a = 0
      · rw [if_neg (pl0 a0)]
        by_cases b0 : b = 0
        · have e := s_passDay (Y := Y) (g := g) isP_19 hE ht hg 0
          rw [show (!decide ((0 : Int32) = 0)) = false from by decide] at e
          rw [if_pos (show nI b = 0 by rw [b0]; rfl), if_pos ⟨a0, b0⟩, e, bv_rV]
          rfl
        · rw [if_neg (nI_ne0 (by omega) (by omega)), if_neg (by omega)]
          rfl
      · rw [if_pos (pl1 a0), if_neg (by omega)]
        rfl
    rw [if_neg (show ¬ nI w = (0 : Int32) from nI_ne0 (by omega) (by omega)), if_neg w0]
    by_cases w1 : w = 1
    · subst w1
      rw [if_pos (show nI 1 = (1 : Int32) from rfl), if_pos rfl]
      by_cases a0 : a = 0
      · rw [if_neg (pl0 a0)]
        by_cases h : 0 < n ∧ 1 ≤ b ∧ ¬ rmP kd g 0 < nI b
        · obtain ⟨r, r1, r2⟩ := c_seaY (Y := Y) hE hok hb h
          rw [if_pos ⟨a0, h⟩, r2, bi_rI, if_neg r1]
          rfl
        · obtain ⟨r, r1, r2⟩ := c_seaN (Y := Y) hE hb h
          rw [if_neg (fun q => h q.2), r2, bi_rI, if_pos r1]
          rfl
      · rw [if_pos (pl1 a0), if_neg (fun q => a0 q.1)]
        rfl
    have ne : ∀ c : Nat, c ≤ 9 → ¬ w = c → ¬ nI w = nI c := fun c hc h e => h ((nI_eq (by omega) (by omega)).mp e)
    rw [if_neg (show ¬ nI w = (1 : Int32) from ne 1 (by omega) w1), if_neg w1]
    by_cases w2 : w = 2
    · subst w2
      rw [if_pos (show nI 2 = (2 : Int32) from rfl), if_pos rfl]
      by_cases h : a + 1 < n ∧ 1 ≤ b ∧ ¬ g a < nI b ∧ ¬ rmP kd g (a + 1) < nI b
      · obtain ⟨r, r1, r2⟩ := c_letY (Y := Y) hE hok hb h
        rw [if_pos h, r2, bi_rI, if_neg r1]
        rfl
      · obtain ⟨r, r1, r2⟩ := c_letN (Y := Y) hE (by omega) hb h
        rw [if_neg h, r2, bi_rI, if_pos r1]
        rfl
    rw [if_neg (show ¬ nI w = (2 : Int32) from ne 2 (by omega) w2), if_neg w2]
    by_cases w3 : w = 3
    · subst w3
      rw [if_pos (show nI 3 = (3 : Int32) from rfl), if_pos rfl]
      by_cases a0 : a = 0
      · rw [if_neg (pl0 a0)]
        by_cases h : b + 1 < n
        · have e := s_turnGate (Y := Y) (g := g) isP_19 hE h
          unfold turnR at e
          rw [if_pos ⟨a0, h⟩, e, bi_rI, if_neg (by show ¬ (if hasB (g 12) b then (0 : Int32) else 1) < 0; split <;> decide)]
          rfl
        · rw [if_neg (fun q => h q.2), s_turnGateN isP_19 hE (by rw [inN_nI (by omega)]; omega), bi_rI, if_pos (by decide)]
          rfl
      · rw [if_pos (pl1 a0), if_neg (fun q => a0 q.1)]
        rfl
    rw [if_neg (show ¬ nI w = (3 : Int32) from ne 3 (by omega) w3), if_neg w3]
    by_cases w4 : w = 4
    · subst w4
      rw [if_pos (show nI 4 = (4 : Int32) from rfl), if_pos rfl]
      by_cases a0 : a = 0
      · rw [if_neg (pl0 a0)]
        by_cases h : b < n
        · have e := s_rakeUp (Y := Y) (g := g) isP_19 hE h
          unfold rakeR at e
          cases hr : rkB g b with
          | true =>
            rw [hr, if_pos rfl] at e
            rw [if_pos ⟨a0, h, rfl⟩, e, bi_rI, if_neg (show ¬ crP g b < 0 from nneg (crP_b hok (by omega)).1)]
            rfl
          | false =>
            rw [hr, if_neg (by decide)] at e
            rw [if_neg (fun q => by cases q.2.2), e, bi_rI, if_pos (show (-3 : Int32) < 0 by decide)]
            rfl
        · rw [if_neg (fun q => h q.2.1), s_rakeUpN isP_19 hE (by rw [inN_nI (by omega)]; exact h), bi_rI, if_pos (by decide)]
          rfl
      · rw [if_pos (pl1 a0), if_neg (fun q => a0 q.1)]
        rfl
    rw [if_neg (show ¬ nI w = (4 : Int32) from ne 4 (by omega) w4), if_neg w4]
    by_cases w5 : w = 5
    · subst w5
      rw [if_pos (show nI 5 = (5 : Int32) from rfl), if_pos rfl]
      by_cases h : a < n
      · rw [s_hasPanY (hE.set isP_19) h, bi_rI, if_neg n10, ixb_nI (by omega) (by decide), gd_t, cl_nI (by omega), setC_w (by omega)]
        by_cases h2 : g a < nI b
        · rw [if_pos h2, if_neg (fun q => q.2 h2)]
          rfl
        · rw [if_neg h2, if_pos ⟨h, h2⟩]
          rfl
      · rw [s_hasPanN (hE.set isP_19) (by rw [inN_nI (by omega)]; exact h), bi_rI, if_pos z00, if_neg (fun q => h q.1)]
        rfl
    rw [if_neg (show ¬ nI w = (5 : Int32) from ne 5 (by omega) w5), if_neg w5]
    by_cases w6 : w = 6
    · subst w6
      rw [if_pos (show nI 6 = (6 : Int32) from rfl), if_pos rfl]
      by_cases h : a < n
      · rw [s_hasPanY (hE.set isP_19) h, bi_rI, if_neg n10, s_crustOf (by omega), bi_rI]
        by_cases h2 : crP g a < (10 : Int32) * nI b
        · rw [if_pos h2, if_neg (fun q => q.2 h2)]
          rfl
        · rw [if_neg h2, if_pos ⟨h, h2⟩]
          rfl
      · rw [s_hasPanN (hE.set isP_19) (by rw [inN_nI (by omega)]; exact h), bi_rI, if_pos z00, if_neg (fun q => h q.1)]
        rfl
    rw [if_neg (show ¬ nI w = (6 : Int32) from ne 6 (by omega) w6), if_neg w6]
    rfl
  unfold f_Pan_isDone
  by_cases a0 : a = 0
  · rw [if_pos a0] at key
    rw [if_pos (show nI a = 0 by rw [a0]; rfl)]
    exact key
  · rw [if_neg a0] at key
    rw [if_neg (nI_ne0 (by omega) (by omega))]
    exact key
theorem m_does (hE : EM n m kd sk X) (hs : okS4 sk) (hok : okG g) (ht : t < 2 ^ 31) (hg : g 14 = nI t) {v : Nat} (hv : v < 1000) : f_Mod_does (nI v) (setM X 77 g) Y = rI (b01 (doV n m kd sk g v).1) (setM X 77 (doV n m kd sk g v).2) Y := by
  have n6 := hE.2.2.1
  have hE2 := hE.set (g := g) (Or.inr rfl : 77 = 76 ∨ 77 = 77)
  have e70 : setM X 77 g 70 4 = nI n := hE2.1
  unfold f_Mod_does doV
  rw [show nzb (100 : Int32) = true from by decide, gd_t, lt_e, show nzb (10 : Int32) = true from by decide, gd_t, gd_t, lt_e, gd_t, lt_e, show (100 : Int32) = nI 100 from rfl, show (10 : Int32) = nI 10 from rfl, pk_div (by omega) (by omega) (by omega), pk_div (by omega) (by omega) (by omega), pk_rem (by omega) (by omega) (by omega)]
  have er : nI v - nI (v / 10) * nI 10 = nI (v % 10) := by
    have e := pk_rem (a := v) (d := 10) (by omega) (by omega) (by omega)
    rw [pk_div (by omega) (by omega) (by omega)] at e
    exact e
  rw [er]
  generalize hw : v / 100 = w
  generalize ha : v / 10 % 10 = a
  generalize hb : v % 10 = b
  have hw9 : w ≤ 9 := by omega
  have ha9 : a ≤ 9 := by omega
  have hb9 : b ≤ 9 := by omega
  have ne : ∀ c : Nat, c ≤ 9 → ¬ w = c → ¬ nI w = nI c := fun c hc h e => h ((nI_eq (by omega) (by omega)).mp e)
  have pa : ∀ h : a = 0, nI a = (0 : Int32) := fun h => by rw [h]; rfl
  have pn : ∀ h : ¬ a = 0, ¬ nI a = (0 : Int32) := fun h => nI_ne0 (by omega) (by omega)
  by_cases v0 : v = 0
  · have e := m_goDay (a := 77) (Y := Y) (Or.inr rfl) hE ht hg false
    rw [if_neg (by decide), dayM_eq n6 hE.2.2.2.1 hs hok] at e
    unfold doR
    rw [if_pos (show nI v = 0 by rw [v0]; rfl), e, bv_rV, if_pos (show w = 0 by omega), if_pos (show a = 0 ∧ b = 0 by omega)]
    rfl
  rw [if_neg (show ¬ nI v = 0 from nI_ne0 (by omega) (by omega))]
  unfold doR
  by_cases w1 : w = 1
  · subst w1
    rw [if_pos (show nI 1 = (1 : Int32) from rfl), if_neg (show ¬ (1 : Nat) = 0 by decide), if_pos (show (1 : Nat) = 1 from rfl)]
    by_cases a0 : a = 0
    · rw [if_pos (pa a0)]
      unfold f_Mod_seas b_Mod_seas_28 b_Mod_seas_29
      rw [e70]
      by_cases hn : 0 < n
      · rw [if_neg (nI_nle hn (by omega))]
        by_cases h1 : 1 ≤ b
        · have er0 := m_room (a := 77) (k := 0) (Y := Y) (g := g) (Or.inr rfl) hE (by omega)
          rw [show nI 0 = (0 : Int32) from rfl] at er0
          rw [if_neg (nI_nle (by omega) (by omega)), er0, bi_rI]
          by_cases h3 : rmP kd g 0 < nI b
          · rw [if_pos h3, if_pos z00, show zb 0 = true from by decide, gd_t, bi_rI, if_pos z00, if_neg (fun q => q.2.2.2 h3)]
            rfl
          · rw [if_neg h3, if_neg n10, m_goSea, bv_rV, show zb 1 = true from by decide, gd_t, bi_rI, if_neg n10, if_pos ⟨a0, hn, h1, h3⟩]
            rfl
        · rw [if_pos (show nI b ≤ 0 by rw [show b = 0 by omega]; decide), if_pos z00, show zb 0 = true from by decide, gd_t, bi_rI, if_pos z00, if_neg (fun q => h1 q.2.2.1)]
          rfl
      · rw [if_pos (show nI n ≤ 0 by rw [show n = 0 by omega]; decide), if_pos z00, show zb 0 = true from by decide, gd_t, bi_rI, if_pos z00, if_neg (fun q => hn q.2.1)]
        rfl
    · rw [if_neg (pn a0), if_neg (fun q => a0 q.1)]
      rfl
  rw [if_neg (show ¬ nI w = (1 : Int32) from ne 1 (by omega) w1)]
  by_cases w2 : w = 2
  · subst w2
    rw [if_pos (show nI 2 = (2 : Int32) from rfl), if_neg (show ¬ (2 : Nat) = 0 by decide), if_neg (show ¬ (2 : Nat) = 1 by decide), if_pos (show (2 : Nat) = 2 from rfl)]
    unfold f_Mod_lets b_Mod_lets_41 b_Mod_lets_42
    by_cases hn : a + 1 < n
    · rw [m_noGateY hE2 hn, bi_rI, if_pos z00]
      by_cases h1 : 1 ≤ b
      · rw [if_neg (nI_nle (by omega) (by omega)), ixb_nI (by omega) (by decide), gd_t, cl_nI (by omega), setM_s (by omega)]
        by_cases h2 : g a < nI b
        · rw [if_pos h2, if_pos z00, show zb 0 = true from by decide, gd_t, bi_rI, show zb 0 = true from by decide, gd_t, if_neg (fun q => q.2.2.1 h2)]
          rfl
        · rw [if_neg h2, nI_up, m_room (Or.inr rfl) hE (by omega), bi_rI]
          by_cases h3 : rmP kd g (a + 1) < nI b
          · rw [if_pos h3, if_pos z00, show zb 0 = true from by decide, gd_t, bi_rI, show zb 0 = true from by decide, gd_t, if_neg (fun q => q.2.2.2 h3)]
            rfl
          · have t1 := nI_toInt (n := b) (by omega)
            have hnz : ¬ g a = 0 := by
              intro e0
              rw [i_lt, e0, i0] at h2
              omega
            rw [if_neg h3, if_neg n10, m_goLet (by omega) hnz, bi_rI, show zb 1 = true from by decide, gd_t, bi_rI, show zb 1 = true from by decide, gd_t, if_pos ⟨hn, h1, h2, h3⟩]
            rfl
      · rw [if_pos (show nI b ≤ 0 by rw [show b = 0 by omega]; decide), if_pos z00, show zb 0 = true from by decide, gd_t, bi_rI, show zb 0 = true from by decide, gd_t, if_neg (fun q => h1 q.2.1)]
        rfl
    · rw [m_noGateN hE2 (by rw [inN_nI (by omega)]; omega), bi_rI, if_neg n10, if_pos z00, show zb 0 = true from by decide, gd_t, bi_rI, show zb 0 = true from by decide, gd_t, if_neg (fun q => hn q.1)]
      rfl
  rw [if_neg (show ¬ nI w = (2 : Int32) from ne 2 (by omega) w2)]
  by_cases w3 : w = 3
  · subst w3
    rw [if_pos (show nI 3 = (3 : Int32) from rfl), if_neg (show ¬ (3 : Nat) = 0 by decide), if_neg (show ¬ (3 : Nat) = 1 by decide), if_neg (show ¬ (3 : Nat) = 2 by decide), if_pos (show (3 : Nat) = 3 from rfl)]
    by_cases a0 : a = 0
    · rw [if_pos (pa a0)]
      unfold f_Mod_turns b_Mod_turns_13
      by_cases hn : b + 1 < n
      · rw [m_noGateY hE2 hn, bi_rI, if_pos z00, show ixb (12 : Int32) 15 = true from by decide, gd_t, if_neg n10, wr_t, show zb 1 = true from by decide, gd_t, show (12 : Int32).toNatClampNeg = 12 from by decide, setM_s (by omega), upM _ (by omega), bi_rI, if_neg n10, if_pos ⟨a0, hn⟩]
        rfl
      · rw [m_noGateN hE2 (by rw [inN_nI (by omega)]; omega), bi_rI, if_neg n10, show ixb (12 : Int32) 15 = true from by decide, gd_t, if_pos z00, wr_t, show zb 0 = true from by decide, gd_t, show (12 : Int32).toNatClampNeg = 12 from by decide, setM_s (by omega), upM _ (by omega), Int32.xor_zero, upd_id, bi_rI, if_pos z00, if_neg (fun q => hn q.2)]
        rfl
    · rw [if_neg (pn a0), if_neg (fun q => a0 q.1)]
      rfl
  rw [if_neg (show ¬ nI w = (3 : Int32) from ne 3 (by omega) w3)]
  by_cases w4 : w = 4
  · subst w4
    rw [if_pos (show nI 4 = (4 : Int32) from rfl), if_neg (show ¬ (4 : Nat) = 0 by decide), if_neg (show ¬ (4 : Nat) = 1 by decide), if_neg (show ¬ (4 : Nat) = 2 by decide), if_neg (show ¬ (4 : Nat) = 3 by decide), if_pos (show (4 : Nat) = 4 from rfl)]
    by_cases a0 : a = 0
    · rw [if_pos (pa a0)]
      unfold f_Mod_rakes b_Mod_rakes_23 b_Mod_rakes_24
      by_cases hn : b < n
      · rw [m_noPanY hE2 hn, bi_rI, if_pos z00, m_canRake (by omega), bi_rI]
        cases hr : rkB g b with
        | true =>
          rw [if_neg oif, if_neg n10, m_goRake (by omega), bi_rI, show zb 1 = true from by decide, gd_t, bi_rI, if_neg n10, if_pos ⟨a0, hn, rfl⟩]
          rfl
        | false =>
          rw [if_pos zif, if_pos z00, show zb 0 = true from by decide, gd_t, bi_rI, if_pos z00, if_neg (fun q => by cases q.2.2)]
          rfl
      · rw [m_noPanN hE2 (by rw [inN_nI (by omega)]; exact hn), bi_rI, if_neg n10, if_pos z00, show zb 0 = true from by decide, gd_t, bi_rI, if_pos z00, if_neg (fun q => hn q.2.1)]
        rfl
    · rw [if_neg (pn a0), if_neg (fun q => a0 q.1)]
      rfl
  rw [if_neg (show ¬ nI w = (4 : Int32) from ne 4 (by omega) w4)]
  by_cases w5 : w = 5
  · subst w5
    rw [if_pos (show nI 5 = (5 : Int32) from rfl), if_neg (show ¬ (5 : Nat) = 0 by decide), if_neg (show ¬ (5 : Nat) = 1 by decide), if_neg (show ¬ (5 : Nat) = 2 by decide), if_neg (show ¬ (5 : Nat) = 3 by decide), if_neg (show ¬ (5 : Nat) = 4 by decide), if_pos (show (5 : Nat) = 5 from rfl)]
    by_cases hn : a < n
    · rw [m_noPanY hE2 hn, bi_rI, if_pos z00, ixb_nI (by omega) (by decide), gd_t, cl_nI (by omega), setM_s (by omega)]
      by_cases h2 : g a < nI b
      · rw [if_pos h2, if_neg (fun q => q.2 h2)]
        rfl
      · rw [if_neg h2, if_pos ⟨hn, h2⟩]
        rfl
    · rw [m_noPanN hE2 (by rw [inN_nI (by omega)]; exact hn), bi_rI, if_neg n10, if_neg (fun q => hn q.1)]
      rfl
  rw [if_neg (show ¬ nI w = (5 : Int32) from ne 5 (by omega) w5)]
  by_cases w6 : w = 6
  · subst w6
    rw [if_pos (show nI 6 = (6 : Int32) from rfl), if_neg (show ¬ (6 : Nat) = 0 by decide), if_neg (show ¬ (6 : Nat) = 1 by decide), if_neg (show ¬ (6 : Nat) = 2 by decide), if_neg (show ¬ (6 : Nat) = 3 by decide), if_neg (show ¬ (6 : Nat) = 4 by decide), if_neg (show ¬ (6 : Nat) = 5 by decide), if_pos (show (6 : Nat) = 6 from rfl)]
    by_cases hn : a < n
    · rw [m_noPanY hE2 hn, bi_rI, if_pos z00, m_crustOf (by omega), bi_rI]
      by_cases h2 : crP g a < nI 10 * nI b
      · rw [if_pos h2, if_neg (fun q => q.2 h2)]
        rfl
      · rw [if_neg h2, if_pos ⟨hn, h2⟩]
        rfl
    · rw [m_noPanN hE2 (by rw [inN_nI (by omega)]; exact hn), bi_rI, if_neg n10, if_neg (fun q => hn q.1)]
      rfl
  rw [if_neg (show ¬ nI w = (6 : Int32) from ne 6 (by omega) w6)]
  by_cases w0 : w = 0
  · rw [if_pos w0, if_neg (show ¬ (a = 0 ∧ b = 0) by omega)]
    rfl
  · rw [if_neg w0, if_neg w1, if_neg w2, if_neg w3, if_neg w4, if_neg w5, if_neg w6]
    rfl
theorem okG_do (n6 : n ≤ 6) (m5 : m ≤ 5) (hs : okS4 sk) (hok : okG g) (hb : b ≤ 9) : okG (doR n m kd sk g w a b).2 := by
  have t1 := nI_toInt (n := b) (by omega)
  unfold doR
  split
  · split
    · exact okG_day n6 m5 hs hok false
    · exact hok
  · split
    · split
      · next h =>
        have h3 := h.2.2.2
        rw [i_lt, rmP_b hok (by omega)] at h3
        have := dpP_b kd 0
        have e2 : ((2 : Int32) * nI b).toInt = 2 * (nI b).toInt := by
          have e : (2 : Int32).toInt = 2 := by decide
          rw [i_mul (by rw [e]; omega) (by rw [e]; omega), e]
        exact okG_fl hok (by omega) (by omega) (by omega) (by omega) (by omega)
      · exact hok
    · split
      · split
        · next h =>
          have h2 := h.2.2.1
          have h3 := h.2.2.2
          rw [i_lt] at h2 h3
          exact okG_le (kd := kd) hok (by omega) (by omega) (by omega) (by omega)
        · exact hok
      · split
        · split
          · exact okG_tu hok _
          · exact hok
        · split
          · split
            · next h => exact okG_ra hok (by omega)
            · exact hok
          · split
            · split <;> exact hok
            · split
              · split <;> exact hok
              · exact hok
theorem do_14 (n6 : n ≤ 6) (hg : g 14 = nI t) : ∃ t', t' ≤ t + 1 ∧ (doR n m kd sk g w a b).2 14 = nI t' := by
  have keep : ∃ t', t' ≤ t + 1 ∧ g 14 = nI t' := ⟨t, by omega, hg⟩
  unfold doR
  split
  · split
    · exact ⟨t + 1, by omega, by show dayP n m kd sk g false 14 = nI (t + 1); rw [dayP_14, hg, nI_up]⟩
    · exact keep
  · split
    · split
      · exact ⟨t, by omega, by show flP g 0 (nI b) ((2 : Int32) * nI b) 14 = nI t; rw [flP_hi _ _ _ _ (by omega) (by omega)]; exact hg⟩
      · exact keep
    · split
      · split
        · next h => exact ⟨t, by omega, by show leP g a (nI b) 14 = nI t; unfold leP; rw [flP_hi _ _ _ _ (by omega) (by omega), drP_hi _ _ _ (by omega) (by omega)]; exact hg⟩
        · exact keep
      · split
        · split
          · exact ⟨t, by omega, by show tuP g b 14 = nI t; unfold tuP; rw [upd_n _ _ (by omega)]; exact hg⟩
          · exact keep
        · split
          · split
            · next h => exact ⟨t, by omega, by show raP g b 14 = nI t; unfold raP; rw [upd_n _ _ (by omega), upd_n _ _ (by omega)]; exact hg⟩
            · exact keep
          · split
            · split <;> exact keep
            · split
              · split <;> exact keep
              · exact keep
end DO
-- judge
theorem tho_e : ∀ k, k < 4 → tho k = lN (1000 ^ k) := by decide +kernel
theorem pow_b {k : Nat} (hk : k ≤ 4) : 0 < 1000 ^ k ∧ 1000 ^ k ≤ 1000000000000 := by
  rcases (show k = 0 ∨ k = 1 ∨ k = 2 ∨ k = 3 ∨ k = 4 by omega) with rfl | rfl | rfl | rfl | rfl <;> decide
theorem ml_longPower {X : HI} {Y : HL} {c : Nat} (hc : c ≤ 4) (kx : Int64 → Int32 → HI → HL → Option Out) : ∀ d f i, i + d = c → d < f → l_Mod_longPower_5 1000 (nI c) kx f (lN (1000 ^ i)) (nI i) X Y = kx (lN (1000 ^ c)) (nI c) X Y := by
  intro d
  induction d with
  | zero =>
    intro f i h hf
    obtain ⟨f, rfl⟩ : ∃ f', f = f' + 1 := ⟨f - 1, by omega⟩
    have e : i = c := by omega
    subst e
    rw [l_Mod_longPower_5, if_pos (nI_le (Nat.le_refl _) (by omega))]
  | succ d ih =>
    intro f i h hf
    obtain ⟨f, rfl⟩ : ∃ f', f = f' + 1 := ⟨f - 1, by omega⟩
    rw [l_Mod_longPower_5, if_neg (nI_ge (by omega) (by omega)), ltl_e, show (1000 : Int64) = lN 1000 from rfl, lN_mul, nI_up]
    exact ih f (i + 1) (by omega) (by omega)
theorem m_longPower {X : HI} {Y : HL} {c : Nat} (hc : c ≤ 4) : f_Mod_longPower 1000 (nI c) X Y = rL (lN (1000 ^ c)) X Y := by
  unfold f_Mod_longPower
  exact ml_longPower hc _ c 256 0 (by omega) (by omega)
def juR (n m : Nat) (kd sk : Pg) (r c : Nat) : Nat → Nat → Pg → Int32 × Pg
  | 0, _, g => (-9, g)
  | d + 1, i, g => if (doV n m kd sk g (r / 1000 ^ (c - 1 - i) % 1000)).1 then juR n m kd sk r c d (i + 1) (doV n m kd sk g (r / 1000 ^ (c - 1 - i) % 1000)).2 else (nI i, (doV n m kd sk g (r / 1000 ^ (c - 1 - i) % 1000)).2)
theorem fig {r j : Nat} (hr : r < 2 ^ 63) (hj : j ≤ 4) : ((lN r / lN (1000 ^ j)) - (lN r / lN (1000 ^ j)) / (1000 : Int64) * (1000 : Int64)).toInt32 = nI (r / 1000 ^ j % 1000) := by
  have hp := pow_b hj
  have h2 : r / 1000 ^ j ≤ r := Nat.div_le_self _ _
  rw [pk_lDiv hr hp.1 (by omega), show (1000 : Int64) = lN 1000 from rfl, pk_lRem (by omega) (by omega) (by omega), lN_i]
theorem b01_0 (b : Bool) : (b01 b = 0) ↔ b = false := by cases b <;> simp [b01]
theorem l_judge {X : HI} {Y : HL} {n m : Nat} {kd sk : Pg} {r c : Nat} (hE : EC n m kd sk X) (hs : okS4 sk) (hr : r < 2 ^ 63) (hc : c ≤ 4) : ∀ d f i (g : Pg) (t : Nat), i + d = c → d < f → t + d < 2 ^ 31 → g 14 = nI t → okG g → l_Bri_judge_49 (nI c) (lN r) (fun w10 X11 Y12 => (rI (-9 : Int32) X11 Y12)) f (nI i) (setC X 19 g) Y = rI (juR n m kd sk r c d i g).1 (setC X 19 (juR n m kd sk r c d i g).2) Y := by
  intro d
  induction d with
  | zero =>
    intro f i g t h hf ht hg hok
    obtain ⟨f, rfl⟩ : ∃ f', f = f' + 1 := ⟨f - 1, by omega⟩
    have e : i = c := by omega
    subst e
    rw [l_Bri_judge_49, if_pos (nI_le (Nat.le_refl _) (by omega))]
    rfl
  | succ d ih =>
    intro f i g t h hf ht hg hok
    obtain ⟨f, rfl⟩ : ∃ f', f = f' + 1 := ⟨f - 1, by omega⟩
    have hv : r / 1000 ^ (c - 1 - i) % 1000 < 1000 := Nat.mod_lt _ (by decide)
    have hp := pow_b (k := c - 1 - i) (by omega)
    rw [l_Bri_judge_49, if_neg (nI_ge (by omega) (by omega)), show (1 : Int32) = nI 1 from rfl, pk_sub (by omega), pk_sub (by omega), ixb_nI (by omega) (by decide), gd_t, cl_nI (by omega), tho_e _ (by omega), show nzl (lN (1000 ^ (c - 1 - i))) = true from by
      have : ¬ lN (1000 ^ (c - 1 - i)) = lN 0 := fun e => by
        have := (pk_lEQ (a := 1000 ^ (c - 1 - i)) (b := 0) (by omega) (by omega)).mp e
        omega
      simp only [nzl, Bool.not_eq_true', decide_eq_false_iff_not]
      exact this, gd_t, show nzl (1000 : Int64) = true from by decide, gd_t, lt_e, fig hr (by omega), show nzb (100 : Int32) = true from by decide, gd_t, show nzb (10 : Int32) = true from by decide, gd_t, gd_t, gd_t]
    rw [juR]
    unfold doV
    generalize r / 1000 ^ (c - 1 - i) % 1000 = v at hv
    have er : nI v - nI (v / 10) * nI 10 = nI (v % 10) := by
      have e := pk_rem (a := v) (d := 10) (by omega) (by omega) (by omega)
      rw [pk_div (by omega) (by omega) (by omega)] at e
      exact e
    rw [show (100 : Int32) = nI 100 from rfl, show (10 : Int32) = nI 10 from rfl, pk_div (by omega) (by omega) (by omega), pk_div (by omega) (by omega) (by omega), pk_rem (by omega) (by omega) (by omega), er, s_isDone hE hok (t := t) (by omega) hg (by omega) (by omega) (by omega), bi_rI]
    obtain ⟨t', ht', h14⟩ := do_14 (m := m) (kd := kd) (sk := sk) (w := v / 100) (a := v / 10 % 10) (b := v % 10) hE.2.2.1 hg
    have hok' := okG_do (kd := kd) (w := v / 100) (a := v / 10 % 10) (b := v % 10) hE.2.2.1 hE.2.2.2.1 hs hok (by omega)
    cases hd : (doR n m kd sk g (v / 100) (v / 10 % 10) (v % 10)).1 with
    | false =>
      rw [if_pos (show b01 false = 0 from rfl), if_neg (by decide)]
    | true =>
      rw [if_neg (show ¬ b01 true = 0 by decide), if_pos rfl, nI_add]
      exact ih f (i + 1) _ t' (by omega) (by omega) (by omega) h14 hok'
theorem ml_judge {X : HI} {Y : HL} {n m : Nat} {kd sk : Pg} {r c : Nat} (hE : EM n m kd sk X) (hs : okS4 sk) (hr : r < 2 ^ 63) (hc : c ≤ 4) : ∀ d f i (g : Pg) (t : Nat), i + d = c → d < f → t + d < 2 ^ 31 → g 14 = nI t → okG g → l_Mod_judge_44 (nI c) (lN r) (fun w19 X20 Y21 => (rI (-9 : Int32) X20 Y21)) f (nI i) (setM X 77 g) Y = rI (juR n m kd sk r c d i g).1 (setM X 77 (juR n m kd sk r c d i g).2) Y := by
  intro d
  induction d with
  | zero =>
    intro f i g t h hf ht hg hok
    obtain ⟨f, rfl⟩ : ∃ f', f = f' + 1 := ⟨f - 1, by omega⟩
    have e : i = c := by omega
    subst e
    rw [l_Mod_judge_44, if_pos (nI_le (Nat.le_refl _) (by omega))]
    rfl
  | succ d ih =>
    intro f i g t h hf ht hg hok
    obtain ⟨f, rfl⟩ : ∃ f', f = f' + 1 := ⟨f - 1, by omega⟩
    have hv : r / 1000 ^ (c - 1 - i) % 1000 < 1000 := Nat.mod_lt _ (by decide)
    have hp := pow_b (k := c - 1 - i) (by omega)
    rw [l_Mod_judge_44, if_neg (nI_ge (by omega) (by omega)), show (1 : Int32) = nI 1 from rfl, pk_sub (by omega), pk_sub (by omega), m_longPower (by omega), bl_rL, show nzl (lN (1000 ^ (c - 1 - i))) = true from by
      have : ¬ lN (1000 ^ (c - 1 - i)) = lN 0 := fun e => by
        have := (pk_lEQ (a := 1000 ^ (c - 1 - i)) (b := 0) (by omega) (by omega)).mp e
        omega
      simp only [nzl, Bool.not_eq_true', decide_eq_false_iff_not]
      exact this, gd_t, show nzl (1000 : Int64) = true from by decide, gd_t, fig hr (by omega), m_does hE hs hok (t := t) (by omega) hg hv, bi_rI]
    rw [juR]
    unfold doV
    generalize r / 1000 ^ (c - 1 - i) % 1000 = v at hv
    obtain ⟨t', ht', h14⟩ := do_14 (m := m) (kd := kd) (sk := sk) (w := v / 100) (a := v / 10 % 10) (b := v % 10) hE.2.2.1 hg
    have hok' := okG_do (kd := kd) (w := v / 100) (a := v / 10 % 10) (b := v % 10) hE.2.2.1 hE.2.2.2.1 hs hok (by omega)
    cases hd : (doR n m kd sk g (v / 100) (v / 10 % 10) (v % 10)).1 with
    | false =>
      rw [if_pos (show b01 false = 0 from rfl), if_neg (by decide)]
    | true =>
      rw [if_neg (show ¬ b01 true = 0 by decide), if_pos rfl, nI_add]
      exact ih f (i + 1) _ t' (by omega) (by omega) (by omega) h14 hok'
theorem ok_judge (x : Int32) (z : Int64) : Ok (fun X Y => f_Bri_judge x z X Y) (fun X Y => f_Mod_judge x z X Y) := by
  apply Ok.ask
  intro T n m X Y hT hR hg hp
  obtain ⟨hE, h4, h6, hs4⟩ := id hg
  have hM := hg.em
  obtain ⟨hpg, hok, hz, t, ht, h14⟩ := hp
  have gen : ∀ r : Int32, f_Bri_judge x z X Y = rI r X Y → f_Mod_judge x z X Y = rI r (up X 70 0 0) Y → ∃ r X1 X2, f_Bri_judge x z X Y = rI r X1 Y ∧ smX X X1 ∧ f_Mod_judge x z X1 Y = rI r X2 Y ∧ smX X1 X2 := fun r h1 h2 => ⟨r, X, _, h1, smX.rf X, h2, thr X⟩
  cases hf : ft x 1 4 with
  | false => exact gen (-2) (by unfold f_Bri_judge; rw [s_isFTn hf, bi_rI, if_pos z00]) (by unfold f_Mod_judge; rw [lh_e, m_inN2 (a := 1) (b := 4) (by decide) (by decide) hf, bi_rI, if_pos z00])
  | true =>
    obtain ⟨c, hc1, hc4, rfl⟩ := ft_nat (a := 1) (b := 4) (by decide) (by decide) hf
    have hpc := pow_b (k := c) hc4
    have hpc1 := pow_b (k := c - 1) (by omega)
    have pw : 1000 ^ c = 1000 * 1000 ^ (c - 1) := by
      obtain ⟨j, rfl⟩ : ∃ j, c = j + 1 := ⟨c - 1, by omega⟩
      rw [Nat.pow_succ, Nat.mul_comm]
      rfl
    by_cases hz0 : z < 0
    · refine gen (-2) ?_ ?_
      · unfold f_Bri_judge
        rw [s_isFTy hf, bi_rI, if_neg n10, if_pos (by rw [lg_cmp_lt]; exact hz0)]
      · unfold f_Mod_judge f_Mod_in
        rw [lh_e, if_neg (by rw [lg_cmp_lt, show (1 : Int64) = (1 : Int32).toInt64 from by decide, lt64]; intro q; have := (nI_ltI (a := c) (b := 1) (by omega) (by omega)).mp q; omega), if_neg (by rw [lg_cmp_gt, show (4 : Int64) = (4 : Int32).toInt64 from by decide, lt64]; intro q; have := (nI_ltI (a := 4) (b := c) (by omega) (by omega)).mp q; omega), bi_rI, if_neg n10, m_longPower hc4, bl_rL, if_pos (by rw [lg_cmp_lt]; exact hz0), bi_rI, if_pos z00]
    · obtain ⟨r, hr, rfl⟩ := pk_lOf hz0
      have hin : f_Mod_in (nI c).toInt64 1 4 (up X 70 0 0) Y = rI 1 (up X 70 0 0) Y := m_inY2 (a := 1) (b := 4) (by decide) (by decide) hf
      have hnz : nzl (lN (1000 ^ (c - 1))) = true := by
        have : ¬ lN (1000 ^ (c - 1)) = lN 0 := fun e => by
          have := (pk_lEQ (a := 1000 ^ (c - 1)) (b := 0) (by omega) (by omega)).mp e
          omega
        simp only [nzl, Bool.not_eq_true', decide_eq_false_iff_not]
        exact this
      have hdiv : lN r / lN (1000 ^ (c - 1)) = lN (r / 1000 ^ (c - 1)) := pk_lDiv hr hpc1.1 (by omega)
      have hdl : r / 1000 ^ (c - 1) ≤ r := Nat.div_le_self _ _
      by_cases hbig : r < 1000 ^ c
      · have h9 : r / 1000 ^ (c - 1) < 1000 := by
          rw [Nat.div_lt_iff_lt_mul hpc1.1]
          omega
        have s1 := smX_C X (juR n m (X 72) (X 73) r c c 0 (X 76)).2
        have s2 := s1.tr (thr (setC X 19 (juR n m (X 72) (X 73) r c c 0 (X 76)).2))
        have hM2 := hM.same s2
        refine ⟨(juR n m (X 72) (X 73) r c c 0 (X 76)).1, _, _, ?_, s1, ?_, (thr _).tr (smX_M _ (juR n m (X 72) (X 73) r c c 0 (X 76)).2)⟩
        · show f_Bri_judge (nI c) (lN r) X Y = _
          unfold f_Bri_judge
          rw [s_isFTy hf, bi_rI, if_neg n10, if_neg (by rw [lg_cmp_lt]; exact hz0), show (1 : Int32) = nI 1 from rfl, pk_sub hc1, ixb_nI (by omega) (by decide), gd_t, cl_nI (by omega), tho_e _ (by omega), hnz, gd_t, hdiv, if_pos (by rw [lg_cmp_le, show (999 : Int64) = lN 999 from rfl, pk_lLE (by omega) (by omega)]; omega), s_fromNow hpg, br_rR]
          exact l_judge hE hs4 hr hc4 c 256 0 (X 76) t (by omega) (by omega) (by omega) h14 hok
        · show f_Mod_judge (nI c) (lN r) _ Y = _
          unfold f_Mod_judge
          have hin2 : ∀ X', f_Mod_in (lN r) (0 : Int64) (lN (1000 ^ c) - 1) X' Y = rI 1 X' Y := by
            intro X'
            unfold f_Mod_in
            rw [if_neg (by rw [lg_cmp_lt]; exact hz0), if_neg]
            rw [lg_cmp_gt, show (1 : Int64) = lN 1 from rfl, lN_sub (by omega), pk_lLT (by omega) (by omega)]
            omega
          rw [lh_e, m_inY2 (a := 1) (b := 4) (by decide) (by decide) hf, bi_rI, if_neg n10, m_longPower hc4, bl_rL, hin2, bi_rI, if_neg n10, m_begin, bv_rV, s2.p76]
          exact ml_judge hM2 hs4 hr hc4 c 256 0 (X 76) t (by omega) (by omega) (by omega) h14 hok
      · have h9 : ¬ r / 1000 ^ (c - 1) < 1000 := by
          rw [Nat.div_lt_iff_lt_mul hpc1.1]
          omega
        refine gen (-2) ?_ ?_
        · unfold f_Bri_judge
          rw [s_isFTy hf, bi_rI, if_neg n10, if_neg (by rw [lg_cmp_lt]; exact hz0), show (1 : Int32) = nI 1 from rfl, pk_sub hc1, ixb_nI (by omega) (by decide), gd_t, cl_nI (by omega), tho_e _ (by omega), hnz, gd_t, hdiv, if_neg (by rw [lg_cmp_le, show (999 : Int64) = lN 999 from rfl, pk_lLE (by omega) (by omega)]; omega)]
        · unfold f_Mod_judge
          rw [lh_e, hin, bi_rI, if_neg n10, m_longPower hc4, bl_rL]
          unfold f_Mod_in
          rw [if_neg (by rw [lg_cmp_lt]; exact hz0), if_pos (by rw [lg_cmp_gt, show (1 : Int64) = lN 1 from rfl, lN_sub (by omega), pk_lLT (by omega) (by omega)]; omega), bi_rI, if_pos z00]
