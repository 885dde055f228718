/-! clouds -/
def cnN (x : Int32) : Nat → Nat
  | 0 => 0
  | k + 1 => cnN x k + (if hasB x k then 1 else 0)
theorem cnN_le (x : Int32) : ∀ k, cnN x k ≤ k
  | 0 => Nat.le_refl _
  | k + 1 => by
    have := cnN_le x k
    show cnN x k + (if hasB x k then 1 else 0) ≤ k + 1
    split <;> omega
theorem mnA_cn (x : Int32) : ∀ k, mnA x k = nI (cnN x k)
  | 0 => rfl
  | k + 1 => by
    show mnA x k + ((x >>> (nI k &&& 31)) &&& 1) = nI (cnN x k + (if hasB x k then 1 else 0))
    rw [mnA_cn x k, and1_hasB]
    cases hasB x k with
    | false => rw [if_neg (by decide), if_neg (by decide)]; exact Int32.add_zero _
    | true => rw [if_pos rfl, if_pos rfl]; exact nI_up _
theorem cn_6 : ∀ n, n ≤ 6 → ∀ s, s < 2 ^ n → cnN (nI s) 6 = cnN (nI s) n := by decide +kernel
def wtN (x : Int32) (c : Nat) : Nat → Nat
  | 0 => 1
  | k + 1 => wtN x c k * (if hasB x k then c else 10 - c)
theorem wtN_p (x : Int32) (c : Nat) : ∀ k, wtN x c k = c ^ cnN x k * (10 - c) ^ (k - cnN x k)
  | 0 => rfl
  | k + 1 => by
    have hle := cnN_le x k
    show wtN x c k * (if hasB x k then c else 10 - c) = c ^ (cnN x k + (if hasB x k then 1 else 0)) * (10 - c) ^ (k + 1 - (cnN x k + (if hasB x k then 1 else 0)))
    rw [wtN_p x c k]
    cases hasB x k with
    | false =>
      rw [if_neg (by decide), if_neg (by decide), Nat.add_zero, show k + 1 - cnN x k = k - cnN x k + 1 by omega, Nat.pow_succ, Nat.mul_assoc]
    | true =>
      rw [if_pos rfl, if_pos rfl, show k + 1 - (cnN x k + 1) = k - cnN x k by omega, Nat.pow_succ, Nat.mul_assoc, Nat.mul_assoc, Nat.mul_comm c]
theorem wtN_b (x : Int32) {c : Nat} (hc : c ≤ 10) : ∀ k, wtN x c k ≤ 10 ^ k
  | 0 => Nat.le_refl _
  | k + 1 => by
    rw [Nat.pow_succ]
    exact Nat.mul_le_mul (wtN_b x hc k) (by split <;> omega)
theorem ml_power {X : HI} {Y : HL} (a k : Nat) (hk : k < 256) (kx : Int32 → Int32 → HI → HL → Option Out) : ∀ d f i, i + d = k → d < f → l_Mod_power_4 (nI a) (nI k) kx f (nI (a ^ i)) (nI i) X Y = kx (nI (a ^ k)) (nI k) X Y := by
  intro d
  induction d with
  | zero =>
    intro f i h hf
    obtain ⟨f, rfl⟩ : ∃ f', f = f' + 1 := ⟨f - 1, by omega⟩
    have e : i = k := by omega
    subst e
    rw [l_Mod_power_4, if_pos (nI_le (Nat.le_refl _) (by omega))]
  | succ d ih =>
    intro f i h hf
    obtain ⟨f, rfl⟩ : ∃ f', f = f' + 1 := ⟨f - 1, by omega⟩
    rw [l_Mod_power_4, if_neg (nI_ge (by omega) (by omega)), lt_e, pk_mul, ← Nat.pow_succ, nI_up]
    exact ih f (i + 1) (by omega) (by omega)
theorem m_power {X : HI} {Y : HL} (a k : Nat) (hk : k < 256) : f_Mod_power (nI a) (nI k) X Y = rI (nI (a ^ k)) X Y := by
  unfold f_Mod_power
  exact ml_power a k hk _ k 256 0 (by omega) (by omega)
def clP (n m : Nat) (kd sk g : Pg) (x : Int32) : Nat → Pg
  | 0 => g
  | i + 1 => dayP n m kd sk (clP n m kd sk g x i) (hasB x i)
theorem clP_14 {n m : Nat} {kd sk g : Pg} {x : Int32} {t : Nat} (h : g 14 = nI t) : ∀ i, clP n m kd sk g x i 14 = nI (t + i)
  | 0 => h
  | i + 1 => by
    show dayP n m kd sk (clP n m kd sk g x i) (hasB x i) 14 = _
    rw [dayP_14, clP_14 h i, nI_up]
    rfl
theorem okG_cl {n m : Nat} {kd sk g : Pg} {x : Int32} (hn : n ≤ 6) (hm : m ≤ 5) (hs : okS4 sk) (h : okG g) : ∀ i, okG (clP n m kd sk g x i)
  | 0 => h
  | i + 1 => okG_day hn hm hs (okG_cl hn hm hs h i) _
theorem l_cl1 {X : HI} {Y : HL} {nn : Nat} (hn : nn < 256) (x1 x3 x4 x5 x6 : Int32) (kx : Int32 → Int32 → HI → HL → Option Out) : ∀ d f i, i + d = nn → d < f → l_Bri_clouds_56 x1 (nI nn) x3 x4 x5 x6 kx f (nI (10 ^ i)) (nI i) X Y = kx (nI (10 ^ nn)) (nI nn) X Y := by
  intro d
  induction d with
  | zero =>
    intro f i h hf
    obtain ⟨f, rfl⟩ : ∃ f', f = f' + 1 := ⟨f - 1, by omega⟩
    have e : i = nn := by omega
    subst e
    rw [l_Bri_clouds_56, if_pos (nI_le (Nat.le_refl _) (by omega))]
  | succ d ih =>
    intro f i h hf
    obtain ⟨f, rfl⟩ : ∃ f', f = f' + 1 := ⟨f - 1, by omega⟩
    rw [l_Bri_clouds_56, if_neg (nI_ge (by omega) (by omega)), lt_e, show (10 : Int32) = nI 10 from rfl, pk_mul, ← Nat.pow_succ, nI_up]
    exact ih f (i + 1) (by omega) (by omega)
theorem l_cl2 {X : HI} {Y : HL} {n m nn c t : Nat} {kd sk g : Pg} (hE : EC n m kd sk X) (h14 : g 14 = nI t) (ht : t + nn < 2 ^ 31) (hnn : nn ≤ 6) (hc : c ≤ 10) (x1 x3 x5 x6 x7 x : Int32) (kx : Int32 → Int32 → HI → HL → Option Out) : ∀ d f i, i + d = nn → d < f → l_Bri_clouds_98 x1 (nI nn) x3 (nI c) x5 x6 x7 x kx f (nI (wtN x c i)) (nI i) (setC X 19 (clP n m kd sk g x i)) Y = kx (nI (wtN x c nn)) (nI nn) (setC X 19 (clP n m kd sk g x nn)) Y := by
  intro d
  induction d with
  | zero =>
    intro f i h hf
    obtain ⟨f, rfl⟩ : ∃ f', f = f' + 1 := ⟨f - 1, by omega⟩
    have e : i = nn := by omega
    subst e
    rw [l_Bri_clouds_98, if_pos (nI_le (Nat.le_refl _) (by omega))]
  | succ d ih =>
    intro f i h hf
    obtain ⟨f, rfl⟩ : ∃ f', f = f' + 1 := ⟨f - 1, by omega⟩
    have e := ih f (i + 1) (by omega) (by omega)
    have e14 := clP_14 (n := n) (m := m) (kd := kd) (sk := sk) (x := x) h14 i
    rw [show wtN x c (i + 1) = wtN x c i * (if hasB x i then c else 10 - c) from rfl, show clP n m kd sk g x (i + 1) = dayP n m kd sk (clP n m kd sk g x i) (hasB x i) from rfl] at e
    rw [l_Bri_clouds_98, if_neg (nI_ge (by omega) (by omega)), and1_hasB]
    unfold b_Bri_clouds_120 b_Bri_clouds_139
    cases hb : hasB x i with
    | false =>
      rw [hb, if_neg (show ¬ false = true by decide)] at e
      rw [if_neg (show ¬ (if false = true then (1 : Int32) else 0) = 1 by decide), if_pos z00, lt_e, show (10 : Int32) = nI 10 from rfl, pk_sub hc, pk_mul, s_passDay isP_19 hE (t := t + i) (by omega) e14, bv_rV, nI_up]
      exact e
    | true =>
      rw [hb, if_pos rfl] at e
      rw [if_pos (show (if true = true then (1 : Int32) else 0) = 1 by decide), if_neg n10, lt_e, pk_mul, s_passDay isP_19 hE (t := t + i) (by omega) e14, bv_rV, nI_up]
      exact e
def clS (n m : Nat) (kd sk g : Pg) (nn c k : Nat) (v : Int32) : Nat → Nat
  | 0 => 0
  | s + 1 => clS n m kd sk g nn c k v s + (if crP (clP n m kd sk g (nI s) nn) k < v then 0 else wtN (nI s) c nn)
theorem clS_b {n m : Nat} {kd sk g : Pg} {nn c k : Nat} {v : Int32} (hnn : nn ≤ 6) (hc : c ≤ 10) : ∀ s, clS n m kd sk g nn c k v s ≤ s * 1000000
  | 0 => Nat.le_refl _
  | s + 1 => by
    have h1 := clS_b (n := n) (m := m) (kd := kd) (sk := sk) (g := g) (k := k) (v := v) hnn hc s
    have h2 := wtN_b (nI s) hc nn
    have h3 : 10 ^ nn ≤ 10 ^ 6 := Nat.pow_le_pow_right (by decide) hnn
    rw [Nat.succ_mul]
    refine Nat.add_le_add h1 ?_
    split
    · exact Nat.zero_le _
    · exact Nat.le_trans h2 h3
theorem l_cl3 {X0 : HI} {Y : HL} {n m nn c t k : Nat} {kd sk g : Pg} (hE : EC n m kd sk X0) (hp : ∀ k, k < 15 → pgC X0 16 k = g k) (h14 : g 14 = nI t) (ht : t + nn < 2 ^ 31) (hnn : nn ≤ 6) (hc : c ≤ 10) (hk : k < 6) (v x5 x7 : Int32) (kx : Int32 → Int32 → HI → HL → Option Out) : ∀ d f i (X : HI), i + d = 2 ^ nn → d < f → smX X0 X → ∃ X', smX X0 X' ∧ l_Bri_clouds_78 (nI k) (nI nn) v (nI c) x5 x7 kx f (nI (clS n m kd sk g nn c k v i)) (nI i) X Y = kx (nI (clS n m kd sk g nn c k v (2 ^ nn))) (nI (2 ^ nn)) X' Y := by
  have n5 : 2 ^ nn ≤ 2 ^ 6 := Nat.pow_le_pow_right (by decide) hnn
  intro d
  induction d with
  | zero =>
    intro f i X h hf hX
    obtain ⟨f, rfl⟩ : ∃ f', f = f' + 1 := ⟨f - 1, by omega⟩
    have e : i = 2 ^ nn := by omega
    subst e
    refine ⟨X, hX, ?_⟩
    rw [l_Bri_clouds_78, if_pos (show (1 : Int32) <<< (nI nn &&& 31) ≤ nI (2 ^ nn) from by
      show bit nn ≤ _
      rw [bit_nI _ (by omega)]
      exact nI_le (Nat.le_refl _) (by omega))]
  | succ d ih =>
    intro f i X h hf hX
    obtain ⟨f, rfl⟩ : ∃ f', f = f' + 1 := ⟨f - 1, by omega⟩
    have hE' := hE.same hX
    have es : clS n m kd sk g nn c k v (i + 1) = clS n m kd sk g nn c k v i + (if crP (clP n m kd sk g (nI i) nn) k < v then 0 else wtN (nI i) c nn) := rfl
    obtain ⟨X', q1, q2⟩ := ih f (i + 1) (setC X 19 (clP n m kd sk g (nI i) nn)) (by omega) (by omega) (hX.tr (smX_C X _))
    refine ⟨X', q1, ?_⟩
    rw [l_Bri_clouds_78, if_neg (show ¬ (1 : Int32) <<< (nI nn &&& 31) ≤ nI i from by
      show ¬ bit nn ≤ _
      rw [bit_nI _ (by omega)]
      exact nI_ge (by omega) (by omega)), s_fromNow (g := g) (by rw [hX.p16]; exact hp), br_rR]
    refine Eq.trans (l_cl2 (X := X) (Y := Y) hE' h14 ht hnn hc (nI k) v x5 _ x7 (nI i) _ nn 256 0 (by omega) (by omega)) ?_
    show bi (f_Pan_crustOf 19 (nI k) (setC X 19 (clP n m kd sk g (nI i) nn)) Y) _ = _
    rw [s_crustOf hk, bi_rI]
    unfold b_Bri_clouds_172
    rw [nI_up]
    by_cases hv : crP (clP n m kd sk g (nI i) nn) k < v
    · rw [if_pos hv, Nat.add_zero] at es
      rw [es] at q2
      rw [if_pos hv]
      exact q2
    · rw [if_neg hv] at es
      rw [es] at q2
      rw [if_neg hv, lt_e, nI_add]
      exact q2
theorem ml_cl2 {X : HI} {Y : HL} {n m nn t : Nat} {kd sk g : Pg} (hE : EM n m kd sk X) (hs : okS4 sk) (hok : okG g) (h14 : g 14 = nI t) (ht : t + nn < 2 ^ 31) (hnn : nn ≤ 6) (x1 x3 x4 x5 x6 x : Int32) (kx : Int32 → HI → HL → Option Out) : ∀ d f i, i + d = nn → d < f → l_Mod_clouds_76 x1 (nI nn) x3 x4 x5 x6 x kx f (nI i) (setM X 77 (clP n m kd sk g x i)) Y = kx (nI nn) (setM X 77 (clP n m kd sk g x nn)) Y := by
  intro d
  induction d with
  | zero =>
    intro f i h hf
    obtain ⟨f, rfl⟩ : ∃ f', f = f' + 1 := ⟨f - 1, by omega⟩
    have e : i = nn := by omega
    subst e
    rw [l_Mod_clouds_76, if_pos (nI_le (Nat.le_refl _) (by omega))]
  | succ d ih =>
    intro f i h hf
    obtain ⟨f, rfl⟩ : ∃ f', f = f' + 1 := ⟨f - 1, by omega⟩
    have e := ih f (i + 1) (by omega) (by omega)
    have e14 := clP_14 (n := n) (m := m) (kd := kd) (sk := sk) (x := x) h14 i
    have okc := okG_cl (n := n) (m := m) (kd := kd) (x := x) hE.2.2.1 hE.2.2.2.1 hs hok i
    rw [show clP n m kd sk g x (i + 1) = dayP n m kd sk (clP n m kd sk g x i) (hasB x i) from rfl, ← dayM_eq hE.2.2.1 hE.2.2.2.1 hs okc] at e
    have ed := m_goDay (Y := Y) (Or.inr rfl) hE (t := t + i) (by omega) e14 (hasB x i)
    rw [l_Mod_clouds_76, if_neg (nI_ge (by omega) (by omega)), m_has, bi_rI]
    unfold b_Mod_clouds_102
    cases hb : hasB x i with
    | false =>
      rw [hb] at e ed
      rw [if_pos zif, show f_Mod_goDay 77 (1 : Int32) _ _ = _ from ed, bv_rV, nI_up]
      exact e
    | true =>
      rw [hb] at e ed
      rw [if_neg oif, show f_Mod_goDay 77 (0 : Int32) _ _ = _ from ed, bv_rV, nI_up]
      exact e
theorem ml_cl3 {X0 : HI} {Y : HL} {n m nn c t k : Nat} {kd sk g : Pg} (hE : EM n m kd sk X0) (hs : okS4 sk) (hp : X0 76 = g) (hok : okG g) (h14 : g 14 = nI t) (ht : t + nn < 2 ^ 31) (hnn : nn ≤ 6) (hc : c ≤ 10) (hk : k < 6) (v x5 : Int32) (kx : Int32 → Int32 → HI → HL → Option Out) : ∀ d f i (X : HI), i + d = 2 ^ nn → d < f → smX X0 X → ∃ X', smX X0 X' ∧ l_Mod_clouds_61 (nI k) (nI nn) v (nI c) x5 kx f (nI (clS n m kd sk g nn c k v i)) (nI i) X Y = kx (nI (clS n m kd sk g nn c k v (2 ^ nn))) (nI (2 ^ nn)) X' Y := by
  have n5 : 2 ^ nn ≤ 2 ^ 6 := Nat.pow_le_pow_right (by decide) hnn
  intro d
  induction d with
  | zero =>
    intro f i X h hf hX
    obtain ⟨f, rfl⟩ : ∃ f', f = f' + 1 := ⟨f - 1, by omega⟩
    have e : i = 2 ^ nn := by omega
    subst e
    refine ⟨X, hX, ?_⟩
    rw [l_Mod_clouds_61, if_pos (show (1 : Int32) <<< (nI nn &&& 31) ≤ nI (2 ^ nn) from by
      show bit nn ≤ _
      rw [bit_nI _ (by omega)]
      exact nI_le (Nat.le_refl _) (by omega))]
  | succ d ih =>
    intro f i X h hf hX
    obtain ⟨f, rfl⟩ : ∃ f', f = f' + 1 := ⟨f - 1, by omega⟩
    have hM := hE.same hX
    have h76 : X 76 = g := hX.p76.trans hp
    have es : clS n m kd sk g nn c k v (i + 1) = clS n m kd sk g nn c k v i + (if crP (clP n m kd sk g (nI i) nn) k < v then 0 else wtN (nI i) c nn) := rfl
    have hcn := cnN_le (nI i) nn
    obtain ⟨X', q1, q2⟩ := ih f (i + 1) (setM X 77 (clP n m kd sk g (nI i) nn)) (by omega) (by omega) (hX.tr (smX_M X _))
    refine ⟨X', q1, ?_⟩
    rw [l_Mod_clouds_61, if_neg (show ¬ (1 : Int32) <<< (nI nn &&& 31) ≤ nI i from by
      show ¬ bit nn ≤ _
      rw [bit_nI _ (by omega)]
      exact nI_ge (by omega) (by omega)), m_begin, bv_rV, h76]
    refine Eq.trans (ml_cl2 (X := X) (Y := Y) hM hs hok h14 ht hnn (nI k) v (nI c) x5 _ (nI i) _ nn 256 0 (by omega) (by omega)) ?_
    show bi (f_Mod_many (nI i) (setM X 77 (clP n m kd sk g (nI i) nn)) Y) _ = _
    rw [m_many, bi_rI, m_crustOf hk, bi_rI, mnA_cn, cn_6 nn hnn i (by omega)]
    unfold b_Mod_clouds_156
    rw [nI_up]
    by_cases hv : crP (clP n m kd sk g (nI i) nn) k < v
    · rw [if_pos hv, Nat.add_zero] at es
      rw [es] at q2
      rw [if_pos hv, lt_e, Int32.add_zero]
      exact q2
    · rw [if_neg hv, wtN_p] at es
      rw [es] at q2
      rw [if_neg hv, m_power c _ (by omega), bi_rI, show (10 : Int32) = nI 10 from rfl, pk_sub hc, pk_sub hcn, m_power (10 - c) _ (by omega), bi_rI, lt_e, pk_mul, nI_add]
      exact q2
theorem ok_clouds (x1 x2 x3 x4 x5 : Int32) : Ok (fun X Y => f_Bri_clouds x1 x2 x3 x4 x5 X Y) (fun X Y => f_Mod_clouds x1 x2 x3 x4 x5 X Y) := by
  apply Ok.ask
  intro T n m X Y hT hR hg hp
  obtain ⟨hE, h4, h6, hs4⟩ := id hg
  have hM := hg.em
  have n6 := hE.2.2.1
  obtain ⟨hpg, hok, hz, t, ht, h14⟩ := hp
  have hM1 := hM.same (thr X)
  have gen : ∀ r : Int32, f_Bri_clouds x1 x2 x3 x4 x5 X Y = rI r X Y → f_Mod_clouds x1 x2 x3 x4 x5 X Y = rI r (up X 70 0 0) Y → ∃ r X1 X2, f_Bri_clouds x1 x2 x3 x4 x5 X Y = rI r X1 Y ∧ smX X X1 ∧ f_Mod_clouds x1 x2 x3 x4 x5 X1 Y = rI r X2 Y ∧ smX X1 X2 := fun r h1 h2 => ⟨r, X, _, h1, smX.rf X, h2, thr X⟩
  by_cases hx1 : 0 ≤ x1.toInt ∧ x1.toInt < n
  · obtain ⟨k, hk, rfl⟩ := inN_of hx1
    cases hf : ft x2 1 6 with
    | false =>
      exact gen (-2) (by unfold f_Bri_clouds; rw [s_hasPanY hE hk, bi_rI, if_neg n10, s_isFTn hf, bi_rI, if_pos z00]) (by unfold f_Mod_clouds; rw [lh_e, m_noPanY hM1 hk, bi_rI, if_pos z00, m_inN2 (a := 1) (b := 6) (by decide) (by decide) hf, bi_rI, if_pos z00])
    | true =>
      cases hf3 : ft x3 0 99 with
      | false =>
        exact gen (-2) (by unfold f_Bri_clouds; rw [s_hasPanY hE hk, bi_rI, if_neg n10, s_isFTy hf, bi_rI, if_neg n10, s_isFTn hf3, bi_rI, if_pos z00]) (by unfold f_Mod_clouds; rw [lh_e, m_noPanY hM1 hk, bi_rI, if_pos z00, m_inY2 (a := 1) (b := 6) (by decide) (by decide) hf, bi_rI, if_neg n10, m_inN2 (a := 0) (b := 99) (by decide) (by decide) hf3, bi_rI, if_pos z00])
      | true =>
        cases hf4 : ft x4 0 10 with
        | false =>
          exact gen (-2) (by unfold f_Bri_clouds; rw [s_hasPanY hE hk, bi_rI, if_neg n10, s_isFTy hf, bi_rI, if_neg n10, s_isFTy hf3, bi_rI, if_neg n10, s_isFTn hf4, bi_rI, if_pos z00]) (by unfold f_Mod_clouds; rw [lh_e, m_noPanY hM1 hk, bi_rI, if_pos z00, m_inY2 (a := 1) (b := 6) (by decide) (by decide) hf, bi_rI, if_neg n10, m_inY2 (a := 0) (b := 99) (by decide) (by decide) hf3, bi_rI, if_neg n10, m_inN2 (a := 0) (b := 10) (by decide) (by decide) hf4, bi_rI, if_pos z00])
        | true =>
          obtain ⟨nn, hn1, hn2, rfl⟩ := ft_nat (a := 1) (b := 6) (by decide) (by decide) hf
          obtain ⟨c, hc, rfl⟩ := ft_nat0 (b := 10) (by decide) hf4
          have n5 : 2 ^ nn ≤ 2 ^ 6 := Nat.pow_le_pow_right (by decide) hn2
          have t6 : 10 ^ nn ≤ 10 ^ 6 := Nat.pow_le_pow_right (by decide) hn2
          have tp : 0 < 10 ^ nn := Nat.pow_pos (by decide)
          have sb := clS_b (n := n) (m := m) (kd := X 72) (sk := X 73) (g := X 76) (nn := nn) (c := c) (k := k) (v := x3) hn2 hc (2 ^ nn)
          obtain ⟨X1, s1, e1⟩ := l_cl3 (X0 := X) (Y := Y) (g := X 76) (nn := nn) hE hpg h14 (by omega) hn2 hc (k := k) (by omega) x3 x5 (nI (10 ^ nn)) (fun w31 w32 X33 Y34 =>
    bi (f_Bri_told w31 (nI (10 ^ nn)) x5 X33 Y34) (fun r37 X35 Y36 =>
    (rI r37 X35 Y36))) (2 ^ nn) 256 0 X (by omega) (by omega) (smX.rf X)
          have s2 := s1.tr (thr X1)
          have hM2 := hM.same s2
          obtain ⟨X2, s3, e2⟩ := ml_cl3 (X0 := X) (Y := Y) (g := X 76) (nn := nn) hM hs4 rfl hok h14 (by omega) hn2 hc (k := k) (by omega) x3 x5 (fun w37 w38 X39 Y40 =>
    bi (f_Mod_power (10 : Int32) (nI nn) X39 Y40) (fun r43 X41 Y42 =>
    bi (f_Mod_fraction w37 r43 x5 X41 Y42) (fun r46 X44 Y45 =>
    (rI r46 X44 Y45)))) (2 ^ nn) 256 0 (up X1 70 0 0) (by omega) (by omega) s2
          generalize clS n m (X 72) (X 73) (X 76) nn c k x3 (2 ^ nn) = S at sb e1 e2
          have hS : -2147483648 < (nI S).toInt := by rw [nI_toInt (by omega)]; omega
          refine ⟨toR (nI S) (10 ^ nn) x5, X1, X2, ?_, s1, ?_, s1.sym.tr s3⟩
          · show f_Bri_clouds (nI k) (nI nn) x3 (nI c) x5 X Y = _
            unfold f_Bri_clouds
            rw [s_hasPanY hE hk, bi_rI, if_neg n10, s_isFTy hf, bi_rI, if_neg n10, s_isFTy hf3, bi_rI, if_neg n10, s_isFTy hf4, bi_rI, if_neg n10]
            refine Eq.trans (l_cl1 (X := X) (Y := Y) (nn := nn) (by omega) (nI k) x3 (nI c) x5 0 _ nn 256 0 (by omega) (by omega)) ?_
            refine Eq.trans e1 ?_
            show bi (f_Bri_told (nI S) (nI (10 ^ nn)) x5 X1 Y) _ = _
            rw [s_told hS tp (by omega), bi_rI]
          · show f_Mod_clouds (nI k) (nI nn) x3 (nI c) x5 X1 Y = _
            unfold f_Mod_clouds
            rw [lh_e, m_noPanY hM2 hk, bi_rI, if_pos z00, m_inY2 (a := 1) (b := 6) (by decide) (by decide) hf, bi_rI, if_neg n10, m_inY2 (a := 0) (b := 99) (by decide) (by decide) hf3, bi_rI, if_neg n10, m_inY2 (a := 0) (b := 10) (by decide) (by decide) hf4, bi_rI, if_neg n10]
            refine Eq.trans e2 ?_
            show bi (f_Mod_power (nI 10) (nI nn) X2 Y) _ = _
            rw [m_power 10 nn (by omega), bi_rI, m_fraction hS tp (by omega), bi_rI]
  · exact gen (-1) (by unfold f_Bri_clouds; rw [s_hasPanN hE hx1, bi_rI, if_pos z00]) (by unfold f_Mod_clouds; rw [lh_e, m_noPanN hM1 hx1, bi_rI, if_neg n10])
