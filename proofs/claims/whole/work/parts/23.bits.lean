/-! bits: the family bt, pasted from kit/laws/BITS.to-paste; then own rows -/
def bt (x : Int32) (i : Nat) : Bool := x.toBitVec.getLsbD i
theorem b_ext {x y : Int32} (h : ∀ i, i < 32 → bt x i = bt y i) : x = y := Int32.toBitVec_inj.mp (BitVec.eq_of_getLsbD_eq (fun i hi => h i hi))
theorem b_or (x y : Int32) (i : Nat) : bt (x ||| y) i = (bt x i || bt y i) := by unfold bt; rw [Int32.toBitVec_or, BitVec.getLsbD_or]
theorem b_and (x y : Int32) (i : Nat) : bt (x &&& y) i = (bt x i && bt y i) := by unfold bt; rw [Int32.toBitVec_and, BitVec.getLsbD_and]
theorem b_xor (x y : Int32) (i : Nat) : bt (x ^^^ y) i = (bt x i ^^ bt y i) := by unfold bt; rw [Int32.toBitVec_xor, BitVec.getLsbD_xor]
theorem b_big {x : Int32} {i : Nat} (h : 32 ≤ i) : bt x i = false := BitVec.getLsbD_of_ge _ _ h
theorem b_m1 : ∀ i, i < 32 → bt (-1) i = true := by decide +kernel
theorem b_0 (i : Nat) : bt 0 i = false := BitVec.getLsbD_zero
theorem s_l : ∀ n, n < 32 → ((nI n &&& 31).toBitVec.smod 32).toNat = n := by decide +kernel
theorem s_u : ∀ n, n < 32 → (((nI n).toUInt32 &&& Int32.toUInt32 31).toBitVec % 32).toNat = n := by decide +kernel
theorem b_shl (n : Nat) (hn : n < 32) (x : Int32) {i : Nat} (hi : i < 32) : bt (x <<< (nI n &&& 31)) i = (decide (n ≤ i) && bt x (i - n)) := by
  unfold bt
  rw [Int32.toBitVec_shiftLeft]
  show (x.toBitVec <<< ((nI n &&& 31).toBitVec.smod 32).toNat).getLsbD i = _
  rw [s_l n hn, BitVec.getLsbD_shiftLeft]
  rcases Nat.lt_or_ge i n with h | h
  · simp [h, Nat.not_le.mpr h]
  · simp [hi, h, Nat.not_lt.mpr h]
theorem b_ushr (n : Nat) (hn : n < 32) (x : Int32) (i : Nat) : bt ((x.toUInt32 >>> ((nI n).toUInt32 &&& Int32.toUInt32 31)).toInt32) i = bt x (n + i) := by
  show (x.toUInt32 >>> ((nI n).toUInt32 &&& Int32.toUInt32 31)).toBitVec.getLsbD i = x.toUInt32.toBitVec.getLsbD (n + i)
  rw [UInt32.toBitVec_shiftRight]
  show (x.toUInt32.toBitVec >>> (((nI n).toUInt32 &&& Int32.toUInt32 31).toBitVec % 32).toNat).getLsbD i = _
  rw [s_u n hn, BitVec.getLsbD_ushiftRight]
theorem b_sshr (n : Nat) (hn : n < 32) (x : Int32) {i : Nat} (hi : i < 32) : bt (x >>> (nI n &&& 31)) i = if n + i < 32 then bt x (n + i) else bt x 31 := by
  unfold bt
  rw [Int32.toBitVec_shiftRight]
  show (x.toBitVec.sshiftRight ((nI n &&& 31).toBitVec.smod 32).toNat).getLsbD i = _
  rw [s_l n hn, BitVec.getLsbD_sshiftRight, BitVec.msb_eq_getLsbD_last]
  simp [hi]
theorem b_1 (i : Nat) : bt 1 i = decide (i = 0) := by
  rcases Nat.lt_or_ge i 32 with h | h
  · exact (by decide +kernel : ∀ i, i < 32 → bt 1 i = decide (i = 0)) i h
  · rw [b_big h, decide_eq_false (by omega)]
theorem and1_bt (v : Int32) : v &&& 1 = if bt v 0 then 1 else 0 := by
  apply b_ext
  intro i hi
  rw [b_and, b_1]
  by_cases h : i = 0
  · subst h
    cases bt v 0 <;> rfl
  · cases bt v 0
    · simp [h, b_0]
    · simp [h, b_1]
theorem and1_0 (v : Int32) : (v &&& 1 = 0) ↔ ¬ (v &&& 1 = 1) := by
  rw [and1_bt]
  cases bt v 0
  · constructor
    · intro _; decide
    · intro _; rfl
  · constructor
    · intro h; exact absurd h (by decide)
    · intro h; exact absurd rfl h
theorem hasB_bt (x : Int32) {k : Nat} (hk : k < 32) : hasB x k = bt x k := by
  unfold hasB
  rw [and1_bt, b_sshr k hk x (by omega), if_pos (show k + 0 < 32 by omega), Nat.add_zero]
  cases bt x k <;> decide
theorem and1_hasB (x : Int32) (k : Nat) : (x >>> (nI k &&& 31)) &&& 1 = if hasB x k then 1 else 0 := by
  unfold hasB
  rw [and1_bt]
  cases bt (x >>> (nI k &&& 31)) 0 <;> rfl
theorem bit_bt {k i : Nat} (hk : k < 32) (hi : i < 32) : bt (bit k) i = decide (i = k) := by
  unfold bit
  rw [b_shl k hk 1 hi, b_1]
  by_cases h : i = k
  · subst h; simp
  · by_cases h2 : k ≤ i
    · simp [h, h2]; omega
    · simp [h, h2]
theorem hasB_flip (x : Int32) {k : Nat} (hk : k < 32) : hasB (x ^^^ bit k) k = !hasB x k := by
  rw [hasB_bt _ hk, hasB_bt _ hk, b_xor, bit_bt hk hk]
  simp
/-- a gate set to v -/
def sgV (x : Int32) (k : Nat) (v : Bool) : Int32 := if hasB x k = v then x else x ^^^ bit k
theorem sgV_bt (x : Int32) {k i : Nat} (hk : k < 32) (hi : i < 32) (v : Bool) : bt (sgV x k v) i = if i = k then v else bt x i := by
  unfold sgV
  by_cases h : hasB x k = v
  · rw [if_pos h]
    by_cases hik : i = k
    · subst hik
      rw [if_pos rfl, ← h, hasB_bt _ hk]
    · rw [if_neg hik]
  · rw [if_neg h, b_xor, bit_bt hk hi]
    by_cases hik : i = k
    · subst hik
      rw [if_pos rfl]
      rw [hasB_bt _ hk] at h
      cases hx : bt x i <;> cases v <;> first | (exfalso; exact h hx) | simp
    · rw [if_neg hik]
      simp [hik]
theorem layV (x : Int32) {k : Nat} (hk : k < 32) (v : Bool) : (x &&& (bit k ^^^ (-1))) ||| ((if v then (1 : Int32) else 0) <<< (nI k &&& 31)) = sgV x k v := by
  apply b_ext
  intro i hi
  rw [sgV_bt x hk hi, b_or, b_and, b_xor, bit_bt hk hi, b_m1 i hi, b_shl k hk _ hi]
  by_cases hik : i = k
  · subst hik
    cases v
    · simp [b_0]
    · simp [b_1]
  · cases v
    · simp [hik, b_0]
    · by_cases h2 : k ≤ i
      · simp [hik, b_1]; omega
      · simp [hik, h2]
def emP (g : Pg) (x : Int32) : Nat → Pg
  | 0 => g
  | j + 1 => if hasB x j then emP g x j else upd (upd (emP g x j) j 0) (6 + j) 0
section CR
variable {X : HI} {Y : HL} {n m : Nat} {kd sk g : Pg} {p q k : Nat}
theorem l_passDays (hp : IsP p) (hE : EC n m kd sk X) {t dd : Nat} (ht : t + dd < 2 ^ 31) (hg : g 14 = nI t) (kx : Int32 → HI → HL → Option Out) : ∀ d f i, i + d = dd → d < f → l_Pan_passDays_2 p (nI dd) kx f (nI i) (setC X p (daysP n m kd sk g i)) Y = kx (nI dd) (setC X p (daysP n m kd sk g dd)) Y := by
  intro d
  induction d with
  | zero =>
    intro f i h hf
    obtain ⟨f, rfl⟩ : ∃ f', f = f' + 1 := ⟨f - 1, by omega⟩
    have e : i = dd := by omega
    subst e
    rw [l_Pan_passDays_2, if_pos (nI_le (Nat.le_refl _) (by omega))]
  | succ d ih =>
    intro f i h hf
    obtain ⟨f, rfl⟩ : ∃ f', f = f' + 1 := ⟨f - 1, by omega⟩
    have e14 : daysP n m kd sk g i 14 = nI (t + i) := by rw [daysP_14, hg, nI_add]
    rw [l_Pan_passDays_2, if_neg (nI_ge (by omega) (by omega)), s_passDay hp hE (t := t + i) (by omega) e14, bv_rV, nI_up]
    exact ih f (i + 1) (by omega) (by omega)
theorem s_passDays (hp : IsP p) (hE : EC n m kd sk X) {t dd : Nat} (ht : t + dd < 2 ^ 31) (hd : dd < 256) (hg : g 14 = nI t) : f_Pan_passDays p (nI dd) (setC X p g) Y = rV (setC X p (daysP n m kd sk g dd)) Y := by
  unfold f_Pan_passDays
  exact l_passDays hp hE ht hg _ dd 256 0 (by omega) (by omega)
theorem s_crustBehind (hp : IsP p) (hE : EC n m kd sk X) {t dd : Nat} (ht : t + dd < 2 ^ 31) (hd : dd < 256) (hg : g 14 = nI t) : f_Pan_crustBehind p (nI dd) (setC X p g) Y = rI (crA (daysP n m kd sk g dd) n) (setC X p (daysP n m kd sk g dd)) Y := by
  unfold f_Pan_crustBehind
  rw [s_passDays hp hE ht hd hg, bv_rV, s_crustOfAll hp hE, bi_rI]
theorem l_copy (hp : IsP p) (hq : IsP q) (hpq : p ≠ q) (kx : Int32 → HI → HL → Option Out) : ∀ d f i (g : Pg), i + d = 6 → d < f → (∀ k, k < i → g k = X (q + 1) k ∧ g (6 + k) = X (q + 2) k) → ∃ g' : Pg, (∀ k, k < 6 → g' k = X (q + 1) k ∧ g' (6 + k) = X (q + 2) k) ∧ l_Pan_copy_2 p q kx f (nI i) (setC X p g) Y = kx (nI 6) (setC X p g') Y := by
  have hne : ∀ a b, a < 3 → b < 3 → q + a ≠ p + b := by
    intro a b ha hb
    obtain ⟨p1, p2, p3⟩ := hp
    obtain ⟨q1, q2, q3⟩ := hq
    omega
  have r1 : ∀ (g : Pg), setC X p g (q + 1) = X (q + 1) := fun g => setC_o (hne 1 0 (by omega) (by omega)) (hne 1 1 (by omega) (by omega)) (hne 1 2 (by omega) (by omega))
  have r2 : ∀ (g : Pg), setC X p g (q + 2) = X (q + 2) := fun g => setC_o (hne 2 0 (by omega) (by omega)) (hne 2 1 (by omega) (by omega)) (hne 2 2 (by omega) (by omega))
  intro d
  induction d with
  | zero =>
    intro f i g h hf hgi
    obtain ⟨f, rfl⟩ : ∃ f', f = f' + 1 := ⟨f - 1, by omega⟩
    have e : i = 6 := by omega
    subst e
    refine ⟨g, hgi, ?_⟩
    rw [l_Pan_copy_2, if_pos (show (6 : Int32) ≤ nI 6 by decide)]
  | succ d ih =>
    intro f i g h hf hgi
    obtain ⟨f, rfl⟩ : ∃ f', f = f' + 1 := ⟨f - 1, by omega⟩
    obtain ⟨g', h1, h2⟩ := ih f (i + 1) (upd (upd g i (X (q + 1) i)) (6 + i) (X (q + 2) i)) (by omega) (by omega) (fun k hk => by
      by_cases hki : k = i
      · subst hki
        exact ⟨by rw [upd_n _ _ (by omega), upd_s], by rw [upd_s]⟩
      · rw [upd_n _ _ (by omega), upd_n _ _ hki, upd_n _ _ (by omega), upd_n _ _ (by omega)]
        exact hgi k (by omega))
    refine ⟨g', h1, ?_⟩
    rw [l_Pan_copy_2, if_neg (show ¬ (6 : Int32) ≤ nI i from nI_ge (b := 6) (by omega) (by omega)), ixb_nI (by omega) (by decide), gd_t, wr_t, cl_nI (by omega), r1, upC_w _ (by omega), gd_t, wr_t, r2, upC_s _ (by omega), nI_up]
    exact h2
theorem s_copy (hp : IsP p) (hq : IsP q) (hpq : p ≠ q) : f_Pan_copy p q X Y = rV (setC X p (pgC X q)) Y := by
  have hne : ∀ b, b < 3 → q ≠ p + b := by
    intro b hb
    obtain ⟨p1, p2, p3⟩ := hp
    obtain ⟨q1, q2, q3⟩ := hq
    omega
  have r0 : ∀ (g : Pg), setC X p g q = X q := fun g => setC_o (hne 0 (by omega)) (hne 1 (by omega)) (hne 2 (by omega))
  unfold f_Pan_copy
  obtain ⟨g', h1, h2⟩ := l_copy (X := X) (Y := Y) hp hq hpq (fun w3 X4 Y5 =>
    lh (up X4 p 3 (X4 q 3)) (fun X6 =>
    lh (up X6 p 4 (X6 q 4)) (fun X7 =>
    lh (up X7 p 5 (X7 q 5)) (fun X8 =>
    (rV X8 Y5))))) 6 256 0 (pgC X p) (by omega) (by omega) (fun k hk => absurd hk (by omega))
  rw [setC_self] at h2
  rw [show (0 : Int32) = nI 0 from rfl, h2]
  simp only [lh_e, upC_3, upC_4, upC_5, r0]
  congr 1
  apply setC_ext
  intro k hk
  unfold pgC
  by_cases h6 : k < 6
  · rw [if_pos h6, upd_n _ _ (by omega), upd_n _ _ (by omega), upd_n _ _ (by omega)]
    exact (h1 k h6).1
  · rw [if_neg h6]
    by_cases h12 : k < 12
    · rw [if_pos h12, upd_n _ _ (by omega), upd_n _ _ (by omega), upd_n _ _ (by omega), ← (h1 (k - 6) (by omega)).2]
      congr 1
      omega
    · rw [if_neg h12]
      rcases (show k = 12 ∨ k = 13 ∨ k = 14 by omega) with rfl | rfl | rfl <;> simp [upd]
theorem l_empty (x : Int32) (kx : Int32 → HI → HL → Option Out) : ∀ d f i, i + d = 6 → d < f → l_Pan_emptyAllBut_2 p x kx f (nI i) (setC X p (emP g x i)) Y = kx (nI 6) (setC X p (emP g x 6)) Y := by
  intro d
  induction d with
  | zero =>
    intro f i h hf
    obtain ⟨f, rfl⟩ : ∃ f', f = f' + 1 := ⟨f - 1, by omega⟩
    have e : i = 6 := by omega
    subst e
    rw [l_Pan_emptyAllBut_2, if_pos (show (6 : Int32) ≤ nI 6 by decide)]
  | succ d ih =>
    intro f i h hf
    obtain ⟨f, rfl⟩ : ∃ f', f = f' + 1 := ⟨f - 1, by omega⟩
    have e1 := ih f (i + 1) (by omega) (by omega)
    rw [show emP g x (i + 1) = if hasB x i then emP g x i else upd (upd (emP g x i) i 0) (6 + i) 0 from rfl] at e1
    rw [l_Pan_emptyAllBut_2, if_neg (show ¬ (6 : Int32) ≤ nI i from nI_ge (b := 6) (by omega) (by omega)), and1_hasB]
    unfold b_Pan_emptyAllBut_30
    cases hb : hasB x i with
    | true =>
      rw [hb, if_pos rfl] at e1
      rw [if_neg oif, nI_up]
      exact e1
    | false =>
      rw [hb, if_neg (by decide)] at e1
      rw [if_pos zif, ixb_nI (by omega) (by decide), wr_t, wr_t, cl_nI (by omega), upC_w _ (by omega), upC_s _ (by omega), nI_up]
      exact e1
theorem s_empty (x : Int32) : f_Pan_emptyAllBut p x (setC X p g) Y = rV (setC X p (emP g x 6)) Y := by
  unfold f_Pan_emptyAllBut
  exact l_empty x _ 6 256 0 (by omega) (by omega)
theorem s_setGate (k : Nat) (v : Bool) : f_Pan_setGate p (nI k) (if v then 1 else 0) (setC X p g) Y = rV (setC X p (upd g 12 (sgV (g 12) k v))) Y := by
  unfold f_Pan_setGate sgV
  rw [s_isOpen, bi_rI]
  cases ho : hasB (g 12) k <;> cases v
  · rw [if_pos rfl, if_pos rfl]
    congr 1
    apply setC_ext
    intro j _
    by_cases hj : j = 12
    · subst hj; rw [upd_s]
    · rw [upd_n _ _ hj]
  · rw [if_neg (by decide), if_neg (by decide), lh_e, setC_3, upC_3]
    rfl
  · rw [if_neg (by decide), if_neg (by decide), lh_e, setC_3, upC_3]
    rfl
  · rw [if_pos rfl, if_pos rfl]
    congr 1
    apply setC_ext
    intro j _
    by_cases hj : j = 12
    · subst hj; rw [upd_s]
    · rw [upd_n _ _ hj]
theorem s_turnGate (hp : IsP p) (hE : EC n m kd sk X) (hk : k + 1 < n) : f_Pan_turnGate p (nI k) (setC X p g) Y = rI (turnR g k).1 (setC X p (turnR g k).2) Y := by
  have h6 := hE.2.2.1
  unfold f_Pan_turnGate turnR tuP
  rw [s_hasGateY (hE.set hp) hk, bi_rI, if_neg n10, s_isOpen, bi_rI]
  unfold b_Pan_turnGate_28
  have f1 := s_setGate (X := X) (Y := Y) (p := p) (g := g) k true
  have f0 := s_setGate (X := X) (Y := Y) (p := p) (g := g) k false
  rw [if_pos rfl] at f1
  rw [if_neg (by decide)] at f0
  unfold sgV at f0 f1
  cases ho : hasB (g 12) k with
  | false =>
    rw [ho, if_neg (by decide)] at f1
    rw [if_pos zif, f1, bv_rV, s_isOpen, bi_rI, upd_s, hasB_flip _ (by omega), ho]
    rfl
  | true =>
    rw [ho, if_neg (by decide)] at f0
    rw [if_neg oif, f0, bv_rV, s_isOpen, bi_rI, upd_s, hasB_flip _ (by omega), ho]
    rfl
theorem s_turnGateN (hp : IsP p) (hE : EC n m kd sk X) {x : Int32} (hk : ¬ (0 ≤ x.toInt ∧ x.toInt < (n - 1 : Nat))) : f_Pan_turnGate p x (setC X p g) Y = rI (-1) (setC X p g) Y := by
  unfold f_Pan_turnGate
  rw [s_hasGateN (hE.set hp) hk, bi_rI, if_pos z00]
end CR
