/-! told, fraction -/
theorem gcd_st (a b : Nat) : Nat.gcd a b = Nat.gcd b (a % b) := by
  rw [Nat.gcd_comm a b, Nat.gcd_rec b a, Nat.gcd_comm]
theorem half_st {a b k : Nat} (hb : b < 2 ^ (k + 1)) (hr : ¬ a % b = 0) : b % (a % b) < 2 ^ k := by
  by_cases hz : b = 0
  · subst hz
    rw [Nat.zero_mod]
    exact Nat.two_pow_pos k
  have hb0 : 0 < b := Nat.pos_of_ne_zero hz
  have h1 := Nat.mod_lt a hb0
  have h2 := Nat.mod_lt b (Nat.pos_of_ne_zero hr)
  have h3 : b % (a % b) ≤ b - a % b := by
    rw [Nat.mod_eq_sub_mod (Nat.le_of_lt h1)]
    exact Nat.mod_le _ _
  rw [Nat.pow_succ] at hb
  omega
theorem l_cm {X : HI} {Y : HL} : ∀ k f i a b, b < 2 ^ k → k ≤ 30 → i + 2 * k ≤ 64 → 2 * k < f → a < 2 ^ 31 → l_Bri_commonMeasure_2 (fun w2 w3 w4 X5 Y6 => (rI w2 X5 Y6)) f (nI a) (nI b) (nI i) X Y = rI (nI (Nat.gcd a b)) X Y := by
  intro k
  induction k with
  | zero =>
    intro f i a b hb hk hi hf ha
    obtain ⟨f, rfl⟩ : ∃ f', f = f' + 1 := ⟨f - 1, by omega⟩
    have e : b = 0 := by omega
    subst e
    rw [l_Bri_commonMeasure_2, if_pos (show nI 0 = 0 from rfl), Nat.gcd_zero_right]
    split <;> rfl
  | succ k ih =>
    intro f i a b hb hk hi hf ha
    obtain ⟨f, rfl⟩ : ∃ f', f = f' + 2 := ⟨f - 2, by omega⟩
    have hb31 : b < 2 ^ 31 := Nat.lt_of_lt_of_le hb (Nat.pow_le_pow_right (by decide) (by omega))
    rw [l_Bri_commonMeasure_2, if_neg (show ¬ (64 : Int32) ≤ nI i from nI_ge (b := 64) (by omega) (by omega))]
    by_cases hb0 : b = 0
    · subst hb0
      rw [if_pos (show nI 0 = 0 from rfl), Nat.gcd_zero_right]
    · have hb1 : 0 < b := Nat.pos_of_ne_zero hb0
      have hr := Nat.mod_lt a hb1
      rw [if_neg (nI_ne0 hb1 hb31), nzb_lit (nI_ne0 hb1 hb31), gd_t, lt_e, pk_rem ha hb1 hb31, nI_up, l_Bri_commonMeasure_2, gcd_st a b, gcd_st b (a % b)]
      by_cases hr0 : a % b = 0
      · rw [hr0, if_pos (show nI 0 = 0 from rfl), Nat.mod_zero, Nat.gcd_zero_left]
        split <;> rfl
      · have hr1 : 0 < a % b := Nat.pos_of_ne_zero hr0
        rw [if_neg (show ¬ (64 : Int32) ≤ nI (i + 1) from nI_ge (b := 64) (by omega) (by omega)), if_neg (nI_ne0 hr1 (by omega)), nzb_lit (nI_ne0 hr1 (by omega)), gd_t, lt_e, pk_rem hb31 hr1 (by omega), nI_up]
        exact ih f (i + 1 + 1) (a % b) (b % (a % b)) (half_st hb hr0) (by omega) (by omega) (by omega) (by omega)
theorem ml_div {X : HI} {Y : HL} : ∀ k f a b, b < 2 ^ k → k ≤ 30 → 2 * k < f → a < 2 ^ 31 → l_Mod_divisor_13 (fun w2 w3 X4 Y5 => (rI w2 X4 Y5)) f (nI a) (nI b) X Y = rI (nI (Nat.gcd a b)) X Y := by
  intro k
  induction k with
  | zero =>
    intro f a b hb hk hf ha
    obtain ⟨f, rfl⟩ : ∃ f', f = f' + 1 := ⟨f - 1, by omega⟩
    have e : b = 0 := by omega
    subst e
    rw [l_Mod_divisor_13, if_pos (show nI 0 = 0 from rfl), Nat.gcd_zero_right]
  | succ k ih =>
    intro f a b hb hk hf ha
    obtain ⟨f, rfl⟩ : ∃ f', f = f' + 2 := ⟨f - 2, by omega⟩
    have hb31 : b < 2 ^ 31 := Nat.lt_of_lt_of_le hb (Nat.pow_le_pow_right (by decide) (by omega))
    rw [l_Mod_divisor_13]
    by_cases hb0 : b = 0
    · subst hb0
      rw [if_pos (show nI 0 = 0 from rfl), Nat.gcd_zero_right]
    · have hb1 : 0 < b := Nat.pos_of_ne_zero hb0
      have hr := Nat.mod_lt a hb1
      rw [if_neg (nI_ne0 hb1 hb31), nzb_lit (nI_ne0 hb1 hb31), gd_t, lt_e, pk_rem ha hb1 hb31, l_Mod_divisor_13, gcd_st a b, gcd_st b (a % b)]
      by_cases hr0 : a % b = 0
      · rw [hr0, if_pos (show nI 0 = 0 from rfl), Nat.mod_zero, Nat.gcd_zero_left]
      · have hr1 : 0 < a % b := Nat.pos_of_ne_zero hr0
        rw [if_neg (nI_ne0 hr1 (by omega)), nzb_lit (nI_ne0 hr1 (by omega)), gd_t, lt_e, pk_rem hb31 hr1 (by omega)]
        exact ih f (a % b) (b % (a % b)) (half_st hb hr0) (by omega) (by omega) (by omega)
def toR (x0 : Int32) (b : Nat) (x2 : Int32) : Int32 := if x2 = 0 then nI b / nI (Nat.gcd x0.toInt.natAbs b) else x0 / nI (Nat.gcd x0.toInt.natAbs b)
theorem abs_c {x : Int32} (h : -2147483648 < x.toInt) : (if 0 ≤ x then x else 0 - x) = nI x.toInt.natAbs ∧ x.toInt.natAbs < 2 ^ 31 := by
  have hb := i_rng x
  refine ⟨?_, by omega⟩
  rw [i_eq, nI_toInt (by omega)]
  split
  · next h0 => rw [i_le, i0] at h0; omega
  · next h0 =>
    rw [i_le, i0] at h0
    rw [i_sub (by rw [i0]; omega) (by rw [i0]; omega), i0]
    omega
theorem s_told {X : HI} {Y : HL} {x : Int32} {b : Nat} (h : -2147483648 < x.toInt) (hb0 : 0 < b) (hb : b < 2 ^ 20) (x2 : Int32) : f_Bri_told x (nI b) x2 X Y = rI (toR x b x2) X Y := by
  obtain ⟨e, hn⟩ := abs_c h
  have hg0 : 0 < Nat.gcd x.toInt.natAbs b := Nat.gcd_pos_of_pos_right _ hb0
  have hg1 : Nat.gcd x.toInt.natAbs b ≤ b := Nat.le_of_dvd hb0 (Nat.gcd_dvd_right _ _)
  unfold f_Bri_told f_Bri_commonMeasure toR
  rw [e, show l_Bri_commonMeasure_2 (fun w2 w3 w4 X5 Y6 => (rI w2 X5 Y6)) 256 (nI x.toInt.natAbs) (nI b) (0 : Int32) X Y = _ from l_cm 20 256 0 _ b hb (by omega) (by omega) (by omega) hn, bi_rI, if_pos (show (1 : Int32) ≤ nI _ from nI_le (a := 1) hg0 (by omega)), nzb_lit (nI_ne0 hg0 (by omega)), gd_t, gd_t]
  split <;> rfl
theorem m_fraction {X : HI} {Y : HL} {x : Int32} {b : Nat} (h : -2147483648 < x.toInt) (hb0 : 0 < b) (hb : b < 2 ^ 20) (x2 : Int32) : f_Mod_fraction x (nI b) x2 X Y = rI (toR x b x2) X Y := by
  obtain ⟨e, hn⟩ := abs_c h
  have hg0 : 0 < Nat.gcd x.toInt.natAbs b := Nat.gcd_pos_of_pos_right _ hb0
  have hg1 : Nat.gcd x.toInt.natAbs b ≤ b := Nat.le_of_dvd hb0 (Nat.gcd_dvd_right _ _)
  have ed : f_Mod_divisor x (nI b) X Y = rI (nI (Nat.gcd x.toInt.natAbs b)) X Y := by
    have q := ml_div (X := X) (Y := Y) 20 256 _ b hb (by omega) (by omega) hn
    rw [← e] at q
    unfold f_Mod_divisor b_Mod_divisor_10
    by_cases h0 : 0 ≤ x
    · rw [if_pos h0] at q ⊢
      exact q
    · rw [if_neg h0] at q ⊢
      rw [Int32.zero_sub] at q
      exact q
  unfold f_Mod_fraction toR
  rw [ed, bi_rI, nzb_lit (nI_ne0 hg0 (by omega)), gd_t, gd_t]
  split <;> rfl
