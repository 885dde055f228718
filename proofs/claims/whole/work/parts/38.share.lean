/-! share -/
def fct : Nat → Nat
  | 0 => 1
  | n + 1 => fct n * (n + 1)
theorem fac_e : ∀ j, j < 7 → fac j = nI (fct j) := by decide
theorem fct_b : ∀ n, n < 7 → 0 < fct n ∧ fct n ≤ 720 := by decide
theorem ord_b : ∀ n, n < 7 → ∀ c, c < n → fct c * fct (n - 1 - c) ≤ 120 := by decide
theorem ft_6 : ∀ a, a < 7 → ft (nI a) 0 6 = true := by decide
theorem s_orders {X : HI} {Y : HL} {a b : Nat} (ha : a < 7) (hb : b < 7) : f_Bri_orders (nI a) (nI b) X Y = rI (nI (fct a * fct b)) X Y := by
  unfold f_Bri_orders
  rw [s_isFTy (ft_6 a ha), bi_rI, if_neg n10, s_isFTy (ft_6 b hb), bi_rI, if_neg n10, ixb_nI (by omega) (by decide), gd_t, ixb_nI (by omega) (by decide), gd_t, cl_nI (by omega), cl_nI (by omega), fac_e _ (by omega), fac_e _ (by omega), pk_mul]
theorem cn_lt : ∀ n, n < 7 → ∀ s, s < 2 ^ n → ∀ p, p < n → hasB (nI s) p = false → cnN (nI s) 6 < n := by decide +kernel
theorem or_nI : ∀ s, s < 64 → ∀ p, p < 6 → nI s ||| bit p = nI (s ||| 2 ^ p) := by decide +kernel
theorem ml_ways {X : HI} {Y : HL} {j : Nat} (hj : j < 7) (kx : Int32 → Int32 → HI → HL → Option Out) : ∀ d f i, i + d = j → d < f → l_Mod_ways_4 (nI j) kx f (nI (fct i)) (nI (i + 1)) X Y = kx (nI (fct j)) (nI (j + 1)) X Y := by
  intro d
  induction d with
  | zero =>
    intro f i h hf
    obtain ⟨f, rfl⟩ : ∃ f', f = f' + 1 := ⟨f - 1, by omega⟩
    have e : i = j := by omega
    subst e
    rw [l_Mod_ways_4, if_pos (by rw [i_lt, nI_toInt (by omega), nI_toInt (by omega)]; omega)]
  | succ d ih =>
    intro f i h hf
    obtain ⟨f, rfl⟩ : ∃ f', f = f' + 1 := ⟨f - 1, by omega⟩
    rw [l_Mod_ways_4, if_neg (by rw [i_lt, nI_toInt (by omega), nI_toInt (by omega)]; omega), lt_e, pk_mul, nI_up]
    exact ih f (i + 1) (by omega) (by omega)
theorem m_ways {X : HI} {Y : HL} {j : Nat} (hj : j < 7) : f_Mod_ways (nI j) X Y = rI (nI (fct j)) X Y := by
  unfold f_Mod_ways
  by_cases h0 : j = 0
  · subst h0
    rw [show (256 : Nat) = 255 + 1 from rfl, l_Mod_ways_4, if_pos (show nI 0 < (2 : Int32) by decide)]
    rfl
  · exact ml_ways hj _ (j - 1) 256 1 (by omega) (by omega)
-- emptied pans
theorem emP_hi (g : Pg) (x : Int32) {k : Nat} : ∀ i, i ≤ 6 → 12 ≤ k → emP g x i k = g k
  | 0, _, _ => rfl
  | i + 1, h, hk => by
    rw [emP]
    split
    · exact emP_hi g x i (by omega) hk
    · rw [upd_n _ _ (by omega), upd_n _ _ (by omega)]
      exact emP_hi g x i (by omega) hk
theorem emP_ge (g : Pg) (x : Int32) {k : Nat} (hk : k < 6) : ∀ i, i ≤ k → emP g x i k = g k ∧ emP g x i (6 + k) = g (6 + k)
  | 0, _ => ⟨rfl, rfl⟩
  | i + 1, h => by
    rw [emP]
    split
    · exact emP_ge g x hk i (by omega)
    · rw [upd_n _ _ (by omega), upd_n _ _ (by omega), upd_n _ _ (by omega), upd_n _ _ (by omega)]
      exact emP_ge g x hk i (by omega)
theorem emP_z {n : Nat} {g : Pg} (x : Int32) (hz : okZ n g) : ∀ d, n + d ≤ 6 → emP g x (n + d) = emP g x n
  | 0, _ => rfl
  | d + 1, h => by
    show (if hasB x (n + d) then emP g x (n + d) else upd (upd (emP g x (n + d)) (n + d) 0) (6 + (n + d)) 0) = _
    rw [← emP_z x hz d (by omega)]
    split
    · rfl
    · obtain ⟨e1, e2⟩ := emP_ge g x (k := n + d) (by omega) (n + d) (Nat.le_refl _)
      obtain ⟨z1, z2⟩ := hz (n + d) (by omega) (by omega)
      have a1 : upd (emP g x (n + d)) (n + d) 0 = emP g x (n + d) := by
        rw [show (0 : Int32) = emP g x (n + d) (n + d) from by rw [e1, z1]]
        exact upd_id _ _
      rw [a1, show (0 : Int32) = emP g x (n + d) (6 + (n + d)) from by rw [e2, z2]]
      exact upd_id _ _
theorem okG_em {g : Pg} (x : Int32) (h : okG g) : ∀ i, i ≤ 6 → okG (emP g x i)
  | 0, _ => h
  | i + 1, hi => by
    rw [emP]
    split
    · exact okG_em x h i (by omega)
    · exact okG_upd (okG_upd (okG_em x h i (by omega)) ⟨fun _ => by rw [i0]; omega, fun _ _ => by rw [i0]; omega⟩) ⟨fun _ => by rw [i0]; omega, fun _ _ => by rw [i0]; omega⟩
theorem ml_sh1 {X : HI} {Y : HL} {n m : Nat} {kd sk g : Pg} (hE : EM n m kd sk X) (x1 x2 x : Int32) (kx : Int32 → HI → HL → Option Out) : ∀ d f i, i + d = n → d < f → l_Mod_share_34 x1 x2 x kx f (nI i) (setM X 77 (emP g x i)) Y = kx (nI n) (setM X 77 (emP g x n)) Y := by
  have n6 := hE.2.2.1
  intro d
  induction d with
  | zero =>
    intro f i h hf
    obtain ⟨f, rfl⟩ : ∃ f', f = f' + 1 := ⟨f - 1, by omega⟩
    have e : i = n := by omega
    subst e
    rw [l_Mod_share_34, (hE.set (g := emP g x i) (Or.inr rfl)).1, if_pos (nI_le (Nat.le_refl _) (by omega))]
  | succ d ih =>
    intro f i h hf
    obtain ⟨f, rfl⟩ : ∃ f', f = f' + 1 := ⟨f - 1, by omega⟩
    have e := ih f (i + 1) (by omega) (by omega)
    rw [emP] at e
    rw [l_Mod_share_34, (hE.set (g := emP g x i) (Or.inr rfl)).1, if_neg (nI_ge (by omega) (by omega)), m_has, bi_rI]
    unfold b_Mod_share_69 b_Mod_share_102
    cases hb : hasB x i with
    | false =>
      rw [hb, if_neg (show ¬ false = true by decide)] at e
      rw [if_pos zif, ixb_nI (by omega) (by decide), wr_t, cl_nI (by omega), upM _ (by omega), m_has, hb, bi_rI, if_pos zif, six, ixb_nI (by omega) (by decide), wr_t, cl_nI (by omega), upM _ (by omega), nI_up]
      exact e
    | true =>
      rw [hb, if_pos rfl] at e
      rw [if_neg oif, ixb_nI (by omega) (by decide), gd_t, wr_t, cl_nI (by omega), setM_s (by omega), upM _ (by omega), upd_id, m_has, hb, bi_rI, if_neg oif, six, ixb_nI (by omega) (by decide), gd_t, wr_t, cl_nI (by omega), setM_s (by omega), upM _ (by omega), upd_id, nI_up]
      exact e
def shV (n m : Nat) (kd sk g : Pg) (s : Nat) : Int32 := crA (daysP n m kd sk (emP g (nI s) n) 4) n
theorem l_sh1 {X0 : HI} {Y : HL} {n m t : Nat} {kd sk g : Pg} (hE : EC n m kd sk X0) (hp : ∀ k, k < 15 → pgC X0 16 k = g k) (hz : okZ n g) (h14 : g 14 = nI t) (ht : t + 4 < 2 ^ 31) (x1 x2 : Int32) (kx : Int32 → HI → HL → Option Out) : ∀ d f i (X : HI), i + d = 2 ^ n → d < f → smX X0 X → (∀ j, j < i → X 14 j = shV n m kd sk g j) → ∃ X', smX X0 X' ∧ (∀ j, j < 2 ^ n → X' 14 j = shV n m kd sk g j) ∧ l_Bri_share_26 x1 x2 (nI (2 ^ n)) kx f (nI i) X Y = kx (nI (2 ^ n)) X' Y := by
  have n6 := hE.2.2.1
  have n5 : 2 ^ n ≤ 2 ^ 6 := Nat.pow_le_pow_right (by decide) n6
  intro d
  induction d with
  | zero =>
    intro f i X h hf hX hv
    obtain ⟨f, rfl⟩ : ∃ f', f = f' + 1 := ⟨f - 1, by omega⟩
    have e : i = 2 ^ n := by omega
    subst e
    refine ⟨X, hX, hv, ?_⟩
    rw [l_Bri_share_26, if_pos (nI_le (Nat.le_refl _) (by omega))]
  | succ d ih =>
    intro f i X h hf hX hv
    obtain ⟨f, rfl⟩ : ∃ f', f = f' + 1 := ⟨f - 1, by omega⟩
    have e6 : emP g (nI i) 6 = emP g (nI i) n := by
      have := emP_z (nI i) hz (6 - n) (by omega)
      rw [show n + (6 - n) = 6 by omega] at this
      exact this
    have h14' : emP g (nI i) n 14 = nI t := by rw [emP_hi _ _ _ n6 (by decide)]; exact h14
    rw [l_Bri_share_26, if_neg (nI_ge (by omega) (by omega)), s_fromNow (g := g) (by rw [hX.p16]; exact hp), br_rR, s_empty, bv_rV, e6, show (4 : Int32) = nI 4 from rfl, s_crustBehind isP_19 (hE.same hX) (t := t) ht (by decide) h14', bi_rI, ixb_nI (by omega) (by decide), wr_t, cl_nI (by omega), nI_up]
    refine ih f (i + 1) _ (by omega) (by omega) ((hX.tr (smX_C X _)).tr (smX_up _ _ _ (by decide))) ?_
    intro j hj
    by_cases hji : j = i
    · subst hji
      rw [up_at]
      rfl
    · rw [up_an _ _ _ _ hji, setC_o (by decide) (by decide) (by decide)]
      exact hv j (by omega)
theorem ml_sh2 {X0 : HI} {Y : HL} {n m t : Nat} {kd sk g : Pg} (hE : EM n m kd sk X0) (hs : okS4 sk) (hp : X0 76 = g) (hok : okG g) (h14 : g 14 = nI t) (ht : t + 4 < 2 ^ 31) (x1 x2 : Int32) (kx : Int32 → HI → HL → Option Out) : ∀ d f i (X : HI), i + d = 2 ^ n → d < f → smX X0 X → (∀ j, j < i → X 85 j = shV n m kd sk g j) → ∃ X', smX X0 X' ∧ (∀ j, j < 2 ^ n → X' 85 j = shV n m kd sk g j) ∧ l_Mod_share_17 x1 x2 kx f (nI i) X Y = kx (nI (2 ^ n)) X' Y := by
  have n6 := hE.2.2.1
  have n5 : 2 ^ n ≤ 2 ^ 6 := Nat.pow_le_pow_right (by decide) n6
  intro d
  induction d with
  | zero =>
    intro f i X h hf hX hv
    obtain ⟨f, rfl⟩ : ∃ f', f = f' + 1 := ⟨f - 1, by omega⟩
    have e : i = 2 ^ n := by omega
    subst e
    refine ⟨X, hX, hv, ?_⟩
    rw [l_Mod_share_17, (hE.same hX).1, if_pos (show (1 : Int32) <<< (nI n &&& 31) ≤ nI (2 ^ n) from by
      show bit n ≤ _
      rw [bit_nI _ (by omega)]
      exact nI_le (Nat.le_refl _) (by omega))]
  | succ d ih =>
    intro f i X h hf hX hv
    obtain ⟨f, rfl⟩ : ∃ f', f = f' + 1 := ⟨f - 1, by omega⟩
    have hM := hE.same hX
    have h76 : X 76 = g := hX.p76.trans hp
    have h14' : emP g (nI i) n 14 = nI t := by rw [emP_hi _ _ _ n6 (by decide)]; exact h14
    obtain ⟨X', q1, q2, q3⟩ := ih f (i + 1) (up (setM X 77 (daysP n m kd sk (emP g (nI i) n) 4)) 85 i (shV n m kd sk g i)) (by omega) (by omega) ((hX.tr (smX_M X _)).tr (smX_up _ _ _ (by decide))) (by
      intro j hj
      by_cases hji : j = i
      · subst hji
        rw [up_at]
      · rw [up_an _ _ _ _ hji, setM_o (by decide)]
        exact hv j (by omega))
    refine ⟨X', q1, q2, ?_⟩
    rw [l_Mod_share_17, hM.1, if_neg (show ¬ (1 : Int32) <<< (nI n &&& 31) ≤ nI i from by
      show ¬ bit n ≤ _
      rw [bit_nI _ (by omega)]
      exact nI_ge (by omega) (by omega)), m_begin, bv_rV, h76]
    refine Eq.trans (ml_sh1 (X := X) (Y := Y) hM x1 x2 (nI i) _ n 256 0 (by omega) (by omega)) ?_
    show bv (f_Mod_goDays 77 (nI 4) (setM X 77 (emP g (nI i) n)) Y) _ = _
    rw [m_goDays (Or.inr rfl) hM hs (okG_em _ hok n n6) (t := t) ht (by decide) h14', bv_rV, m_crustOfAll (Or.inr rfl) hM, bi_rI, ixb_nI (by omega) (by decide), wr_t, cl_nI (by omega), nI_up]
    exact q3
def shT (V : Pg) (n p s : Nat) : Int32 := nI (fct (cnN (nI s) 6) * fct (n - 1 - cnN (nI s) 6)) * (V (s ||| 2 ^ p) - V s)
def shS (V : Pg) (n p : Nat) : Nat → Int32
  | 0 => 0
  | s + 1 => if hasB (nI s) p then shS V n p s else shS V n p s + shT V n p s
theorem shT_b {V : Pg} {n p s : Nat} (hn : n < 7) (hs : s < 2 ^ n) (hp : p < n) (hV : ∀ j, j < 2 ^ n → 0 ≤ (V j).toInt ∧ (V j).toInt ≤ 5994) (hb : hasB (nI s) p = false) : -720000 ≤ (shT V n p s).toInt ∧ (shT V n p s).toInt ≤ 720000 := by
  have hc := cn_lt n hn s hs p hp hb
  have ho := ord_b n hn _ hc
  have hor : s ||| 2 ^ p < 2 ^ n := Nat.or_lt_two_pow hs (Nat.pow_lt_pow_right (by decide) hp)
  have v1 := hV s hs
  have v2 := hV _ hor
  unfold shT
  generalize fct (cnN (nI s) 6) * fct (n - 1 - cnN (nI s) 6) = o at ho ⊢
  generalize V (s ||| 2 ^ p) = a at v2 ⊢
  generalize V s = b at v1 ⊢
  have hd : (a - b).toInt = a.toInt - b.toInt := i_sub (by omega) (by omega)
  have hot : (nI o).toInt = (o : Int) := nI_toInt (by omega)
  have u1 : (o : Int) * (a.toInt - b.toInt) ≤ (o : Int) * 5994 := Int.mul_le_mul_of_nonneg_left (by omega) (by omega)
  have u2 : (o : Int) * (-5994) ≤ (o : Int) * (a.toInt - b.toInt) := Int.mul_le_mul_of_nonneg_left (by omega) (by omega)
  rw [i_mul (by rw [hot, hd]; omega) (by rw [hot, hd]; omega), hot, hd]
  omega
theorem shS_b {V : Pg} {n p : Nat} (hn : n < 7) (hp : p < n) (hV : ∀ j, j < 2 ^ n → 0 ≤ (V j).toInt ∧ (V j).toInt ≤ 5994) : ∀ s : Nat, s ≤ 2 ^ n → -720000 * (s : Int) ≤ (shS V n p s).toInt ∧ (shS V n p s).toInt ≤ 720000 * (s : Int)
  | 0, _ => by
    show _ ≤ (0 : Int32).toInt ∧ (0 : Int32).toInt ≤ _
    rw [i0]
    omega
  | s + 1, h => by
    have n5 : 2 ^ n ≤ 2 ^ 6 := Nat.pow_le_pow_right (by decide) (by omega)
    have ih := shS_b hn hp hV s (by omega)
    rw [shS]
    cases hb : hasB (nI s) p with
    | true =>
      rw [if_pos rfl]
      omega
    | false =>
      have tb := shT_b hn (by omega) hp hV hb
      rw [if_neg (by decide), i_add (by omega) (by omega)]
      omega
theorem shS_ext {V W : Pg} {n p : Nat} (hp : p < n) (h : ∀ j, j < 2 ^ n → V j = W j) : ∀ s, s ≤ 2 ^ n → shS V n p s = shS W n p s
  | 0, _ => rfl
  | s + 1, hs => by
    rw [shS, shS, shS_ext hp h s (by omega)]
    unfold shT
    rw [h s (by omega), h _ (Nat.or_lt_two_pow (by omega) (Nat.pow_lt_pow_right (by decide) hp))]
theorem l_sh2 {X : HI} {Y : HL} {n m p : Nat} {kd sk : Pg} (hE : EC n m kd sk X) (hp : p < n) (x2 : Int32) (kx : Int32 → Int32 → HI → HL → Option Out) : ∀ d f i, i + d = 2 ^ n → d < f → l_Bri_share_70 (nI p) x2 (nI (2 ^ n)) kx f (shS (X 14) n p i) (nI i) X Y = kx (shS (X 14) n p (2 ^ n)) (nI (2 ^ n)) X Y := by
  have n6 := hE.2.2.1
  have n5 : 2 ^ n ≤ 2 ^ 6 := Nat.pow_le_pow_right (by decide) n6
  intro d
  induction d with
  | zero =>
    intro f i h hf
    obtain ⟨f, rfl⟩ : ∃ f', f = f' + 1 := ⟨f - 1, by omega⟩
    have e : i = 2 ^ n := by omega
    subst e
    rw [l_Bri_share_70, if_pos (nI_le (Nat.le_refl _) (by omega))]
  | succ d ih =>
    intro f i h hf
    obtain ⟨f, rfl⟩ : ∃ f', f = f' + 1 := ⟨f - 1, by omega⟩
    have e := ih f (i + 1) (by omega) (by omega)
    have hi : i < 2 ^ n := by omega
    have hor : i ||| 2 ^ p < 2 ^ n := Nat.or_lt_two_pow hi (Nat.pow_lt_pow_right (by decide) hp)
    rw [shS] at e
    rw [l_Bri_share_70, if_neg (nI_ge (by omega) (by omega)), and1_hasB]
    unfold b_Bri_share_134
    rw [nI_up]
    cases hb : hasB (nI i) p with
    | true =>
      rw [hb, if_pos rfl] at e
      rw [if_neg oif]
      exact e
    | false =>
      have hc := cn_lt n (by omega) i hi p hp hb
      rw [hb, if_neg (show ¬ false = true by decide)] at e
      rw [if_pos zif, s_bitCount (by omega), bi_rI, mnA_cn, hE.1, show nI n - (1 : Int32) = nI (n - 1) from pk_sub (b := 1) (by omega), pk_sub (by omega), s_orders (by omega) (by omega), bi_rI, show nI i ||| (1 : Int32) <<< (nI p &&& 31) = nI (i ||| 2 ^ p) from or_nI i (by omega) p (by omega), ixb_nI (by omega) (by decide), gd_t, ixb_nI (by omega) (by decide), gd_t, lt_e, cl_nI (by omega), cl_nI (by omega)]
      exact e
theorem ml_sh3 {X : HI} {Y : HL} {n m p : Nat} {kd sk : Pg} (hE : EM n m kd sk X) (hp : p < n) (x2 : Int32) (kx : Int32 → Int32 → HI → HL → Option Out) : ∀ d f i, i + d = 2 ^ n → d < f → l_Mod_share_143 (nI p) x2 kx f (shS (X 85) n p i) (nI i) X Y = kx (shS (X 85) n p (2 ^ n)) (nI (2 ^ n)) X Y := by
  have n6 := hE.2.2.1
  have n5 : 2 ^ n ≤ 2 ^ 6 := Nat.pow_le_pow_right (by decide) n6
  intro d
  induction d with
  | zero =>
    intro f i h hf
    obtain ⟨f, rfl⟩ : ∃ f', f = f' + 1 := ⟨f - 1, by omega⟩
    have e : i = 2 ^ n := by omega
    subst e
    rw [l_Mod_share_143, hE.1, if_pos (show (1 : Int32) <<< (nI n &&& 31) ≤ nI (2 ^ n) from by
      show bit n ≤ _
      rw [bit_nI _ (by omega)]
      exact nI_le (Nat.le_refl _) (by omega))]
  | succ d ih =>
    intro f i h hf
    obtain ⟨f, rfl⟩ : ∃ f', f = f' + 1 := ⟨f - 1, by omega⟩
    have e := ih f (i + 1) (by omega) (by omega)
    have hi : i < 2 ^ n := by omega
    have hor : i ||| 2 ^ p < 2 ^ n := Nat.or_lt_two_pow hi (Nat.pow_lt_pow_right (by decide) hp)
    rw [shS] at e
    rw [l_Mod_share_143, hE.1, if_neg (show ¬ (1 : Int32) <<< (nI n &&& 31) ≤ nI i from by
      show ¬ bit n ≤ _
      rw [bit_nI _ (by omega)]
      exact nI_ge (by omega) (by omega)), m_has, bi_rI]
    unfold b_Mod_share_211
    rw [nI_up]
    cases hb : hasB (nI i) p with
    | true =>
      rw [hb, if_pos rfl] at e
      rw [if_neg oif]
      exact e
    | false =>
      have hc := cn_lt n (by omega) i hi p hp hb
      rw [hb, if_neg (show ¬ false = true by decide)] at e
      rw [if_pos zif, m_many, bi_rI, mnA_cn, m_ways (by omega), bi_rI, hE.1, show nI n - (1 : Int32) = nI (n - 1) from pk_sub (b := 1) (by omega), pk_sub (by omega), m_ways (by omega), bi_rI, pk_mul, show nI i ||| (1 : Int32) <<< (nI p &&& 31) = nI (i ||| 2 ^ p) from or_nI i (by omega) p (by omega), ixb_nI (by omega) (by decide), gd_t, ixb_nI (by omega) (by decide), gd_t, lt_e, cl_nI (by omega), cl_nI (by omega)]
      exact e
theorem ok_share (x1 x2 : Int32) : Ok (fun X Y => f_Bri_share x1 x2 X Y) (fun X Y => f_Mod_share x1 x2 X Y) := by
  apply Ok.ask
  intro T n m X Y hT hR hg hp
  obtain ⟨hE, h4, h6, hs4⟩ := id hg
  have hM := hg.em
  have n6 := hE.2.2.1
  have m5 := hE.2.2.2.1
  have n5 : 2 ^ n ≤ 2 ^ 6 := Nat.pow_le_pow_right (by decide) n6
  obtain ⟨hpg, hok, hz, t, ht, h14⟩ := hp
  have hM1 := hM.same (thr X)
  by_cases hx1 : 0 ≤ x1.toInt ∧ x1.toInt < n
  · obtain ⟨p, hp, rfl⟩ := inN_of hx1
    obtain ⟨X1, s1, v1, e1⟩ := l_sh1 (X0 := X) (Y := Y) (g := X 76) hE hpg hz h14 (by omega) (nI p) x2 (fun w13 X14 Y15 =>
    (l_Bri_share_70 (nI p) x2 (nI (2 ^ n)) (fun w23 w24 X25 Y26 =>
    bi (f_Bri_orders (X25 3 2) (0 : Int32) X25 Y26) (fun r29 X27 Y28 =>
    bi (f_Bri_told w23 r29 x2 X27 Y28) (fun r32 X30 Y31 =>
    (rI r32 X30 Y31)))) 256 (0 : Int32) (0 : Int32) X14 Y15)) (2 ^ n) 256 0 X (by omega) (by omega) (smX.rf X) (fun j hj => absurd hj (by omega))
    have hE1 := hE.same s1
    have e2 := l_sh2 (X := X1) (Y := Y) hE1 hp x2 (fun w23 w24 X25 Y26 =>
    bi (f_Bri_orders (X25 3 2) (0 : Int32) X25 Y26) (fun r29 X27 Y28 =>
    bi (f_Bri_told w23 r29 x2 X27 Y28) (fun r32 X30 Y31 =>
    (rI r32 X30 Y31)))) (2 ^ n) 256 0 (by omega) (by omega)
    have s2 := s1.tr (thr X1)
    have hM2 := hM.same s2
    obtain ⟨X2, s3, v2, e3⟩ := ml_sh2 (X0 := X) (Y := Y) (g := X 76) hM hs4 rfl hok h14 (by omega) (nI p) x2 (fun w24 X25 Y26 =>
    (l_Mod_share_143 (nI p) x2 (fun w40 w41 X42 Y43 =>
    bi (f_Mod_ways (X42 70 4) X42 Y43) (fun r46 X44 Y45 =>
    bi (f_Mod_fraction w40 r46 x2 X44 Y45) (fun r49 X47 Y48 =>
    (rI r49 X47 Y48)))) 256 (0 : Int32) (0 : Int32) X25 Y26)) (2 ^ n) 256 0 (up X1 70 0 0) (by omega) (by omega) s2 (fun j hj => absurd hj (by omega))
    have hM3 := hM.same s3
    have e4 := ml_sh3 (X := X2) (Y := Y) hM3 hp x2 (fun w40 w41 X42 Y43 =>
    bi (f_Mod_ways (X42 70 4) X42 Y43) (fun r46 X44 Y45 =>
    bi (f_Mod_fraction w40 r46 x2 X44 Y45) (fun r49 X47 Y48 =>
    (rI r49 X47 Y48)))) (2 ^ n) 256 0 (by omega) (by omega)
    have ex : shS (X2 85) n p (2 ^ n) = shS (X1 14) n p (2 ^ n) := shS_ext hp (fun j hj => (v2 j hj).trans (v1 j hj).symm) _ (Nat.le_refl _)
    rw [ex] at e4
    have hV : ∀ j, j < 2 ^ n → 0 ≤ (X1 14 j).toInt ∧ (X1 14 j).toInt ≤ 5994 := by
      intro j hj
      rw [v1 j hj]
      unfold shV
      have cb := crA_b (okG_days n6 m5 (kd := X 72) hs4 (okG_em (nI j) hok n n6) 4) n n6
      omega
    have hS0 := shS_b (V := X1 14) (by omega) hp hV (2 ^ n) (Nat.le_refl _)
    generalize shS (X1 14) n p (2 ^ n) = S at e2 e4 hS0
    have hS : -2147483648 < S.toInt := by omega
    obtain ⟨f0, f1⟩ := fct_b n (by omega)
    refine ⟨toR S (fct n) x2, X1, X2, ?_, s1, ?_, s1.sym.tr s3⟩
    · show f_Bri_share (nI p) x2 X Y = _
      unfold f_Bri_share
      rw [s_hasPanY hE hp, bi_rI, if_neg n10, lt_e, hE.1, show (1 : Int32) <<< (nI n &&& 31) = nI (2 ^ n) from bit_nI _ (by omega)]
      refine Eq.trans e1 (Eq.trans e2 ?_)
      show bi (f_Bri_orders (X1 3 2) (nI 0) X1 Y) _ = _
      rw [hE1.1, s_orders (by omega) (by omega), bi_rI, show fct n * fct 0 = fct n from Nat.mul_one _, s_told hS f0 (by omega), bi_rI]
    · show f_Mod_share (nI p) x2 X1 Y = _
      unfold f_Mod_share
      rw [lh_e, m_noPanY hM2 hp, bi_rI, if_pos z00]
      refine Eq.trans e3 (Eq.trans e4 ?_)
      show bi (f_Mod_ways (X2 70 4) X2 Y) _ = _
      rw [hM3.1, m_ways (by omega), bi_rI, m_fraction hS f0 (by omega), bi_rI]
  · exact ⟨-1, X, _, by unfold f_Bri_share; rw [s_hasPanN hE hx1, bi_rI, if_pos z00], smX.rf X, by unfold f_Mod_share; rw [lh_e, m_noPanN hM1 hx1, bi_rI, if_neg n10], thr X⟩
