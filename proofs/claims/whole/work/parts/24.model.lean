/-! the model's low methods on a page -/
def EM (n m : Nat) (kd sk : Pg) (X : HI) : Prop := X 70 4 = nI n ∧ X 70 6 = nI m ∧ n ≤ 6 ∧ m ≤ 5 ∧ (∀ k, k < 6 → X 72 k = kd k) ∧ (∀ k, k < 5 → X 73 k = sk k)
def wthP (kd g : Pg) (e : Int32) (k : Nat) : Pg := if 0 ≤ e then upd g k (if e + (if e ≤ 0 then 0 else if kd k = 2 then 1 else 0) ≤ g k then g k - (e + (if e ≤ 0 then 0 else if kd k = 2 then 1 else 0)) else 0) else stR kd g (-e) k
def watP (kd g : Pg) (e : Int32) : Nat → Pg
  | 0 => g
  | j + 1 => wthP kd (watP kd g e j) e j
def cldE (e : Int32) (c : Bool) : Int32 := if e ≤ 0 then e else if c then 0 else e
def dayM (n m : Nat) (kd sk g : Pg) (c : Bool) : Pg := upd (watP kd (lkP kd (lgP kd g (n - 1)) n) (cldE (skP m sk (g 14).toNatClampNeg) c) n) 14 (g 14 + 1)
theorem w64 (x : Int32) : x.toInt64.toInt = x.toInt := Int32.toInt_toInt64 x
theorem lt64 (a b : Int32) : a.toInt64 < b.toInt64 ↔ a < b := by rw [Int64.lt_iff_toInt_lt, w64, w64, i_lt]
theorem stL_m (kd g : Pg) (k : Nat) : stL kd g k = if hasB (g 12) k then (if g k ≤ 0 then g else if rmP kd g (k + 1) ≤ 0 then g else leP g k 1) else g := by
  unfold stL letR
  split
  · rw [if_neg (by decide)]
    by_cases h1 : g k ≤ 0
    · rw [if_pos h1, if_pos (by rw [i_lt, i1]; rw [i_le, i0] at h1; omega)]
    · rw [if_neg h1, if_neg (by rw [i_lt, i1]; rw [i_le, i0] at h1; omega)]
      by_cases h2 : rmP kd g (k + 1) ≤ 0
      · rw [if_pos h2, if_pos (by rw [i_lt, i1]; rw [i_le, i0] at h2; omega)]
      · rw [if_neg h2, if_neg (by rw [i_lt, i1]; rw [i_le, i0] at h2; omega)]
  · rfl
section MO
variable {X : HI} {Y : HL} {n m : Nat} {kd sk g : Pg} {a k : Nat}
theorem EM.set (hE : EM n m kd sk X) (ha : a = 76 ∨ a = 77) : EM n m kd sk (setM X a g) := by
  unfold EM
  rw [setM_o (by omega : 70 ≠ a), setM_o (by omega : 72 ≠ a), setM_o (by omega : 73 ≠ a)]
  exact hE
theorem m_inY {x a b : Int32} (h : ft x a b = true) : f_Mod_in x.toInt64 a.toInt64 b.toInt64 X Y = rI 1 X Y := by
  simp only [ft, Bool.and_eq_true, Bool.not_eq_true', decide_eq_false_iff_not] at h
  unfold f_Mod_in
  rw [if_neg (by rw [lg_cmp_lt, lt64]; exact h.1), if_neg (by rw [lg_cmp_gt, lt64]; exact h.2)]
theorem m_inN {x a b : Int32} (h : ft x a b = false) : f_Mod_in x.toInt64 a.toInt64 b.toInt64 X Y = rI 0 X Y := by
  unfold f_Mod_in
  by_cases h1 : x < a
  · rw [if_pos (by rw [lg_cmp_lt, lt64]; exact h1)]
  · rw [if_neg (by rw [lg_cmp_lt, lt64]; exact h1)]
    by_cases h2 : b < x
    · rw [if_pos (by rw [lg_cmp_gt, lt64]; exact h2)]
    · simp [ft, h1, h2] at h
theorem nI_m1 {n : Nat} (h : n < 2 ^ 30) : (nI n - 1).toInt = (n : Int) - 1 := by
  have h1 : (nI n).toInt = (n : Int) := nI_toInt (by omega)
  rw [i_sub (by rw [h1, i1]; omega) (by rw [h1, i1]; omega), h1, i1]
theorem nI_m2 {n : Nat} (h : n < 2 ^ 30) : (nI n - 2).toInt = (n : Int) - 2 := by
  have h1 : (nI n).toInt = (n : Int) := nI_toInt (by omega)
  have h2 : (2 : Int32).toInt = 2 := by decide
  rw [i_sub (by rw [h1, h2]; omega) (by rw [h1, h2]; omega), h1, h2]
theorem m_noPanY (hE : EM n m kd sk X) (hk : k < n) : f_Mod_noPan (nI k) X Y = rI 0 X Y := by
  have h6 := hE.2.2.1
  unfold f_Mod_noPan
  rw [hE.1, show (0 : Int64) = (0 : Int32).toInt64 from by decide, m_inY, bi_rI, if_neg n10]
  simp only [ft, Bool.and_eq_true, Bool.not_eq_true', decide_eq_false_iff_not]
  refine ⟨nI_pos (by omega), ?_⟩
  rw [i_lt, nI_m1 (by omega), nI_toInt (by omega)]
  omega
theorem m_noPanN (hE : EM n m kd sk X) {x : Int32} (h : ¬ (0 ≤ x.toInt ∧ x.toInt < n)) : f_Mod_noPan x X Y = rI 1 X Y := by
  have h6 := hE.2.2.1
  unfold f_Mod_noPan
  rw [hE.1, show (0 : Int64) = (0 : Int32).toInt64 from by decide, m_inN, bi_rI, if_pos z00]
  by_cases h1 : x < 0
  · simp [ft, h1]
  · have h2 : nI n - 1 < x := by
      rw [i_lt, nI_m1 (by omega)]
      rw [i_lt, i0] at h1
      omega
    simp [ft, h2]
theorem m_noGateY (hE : EM n m kd sk X) (hk : k + 1 < n) : f_Mod_noGate (nI k) X Y = rI 0 X Y := by
  have h6 := hE.2.2.1
  unfold f_Mod_noGate
  rw [hE.1, show (0 : Int64) = (0 : Int32).toInt64 from by decide, m_inY, bi_rI, if_neg n10]
  simp only [ft, Bool.and_eq_true, Bool.not_eq_true', decide_eq_false_iff_not]
  refine ⟨nI_pos (by omega), ?_⟩
  rw [i_lt, nI_m2 (by omega), nI_toInt (by omega)]
  omega
theorem m_noGateN (hE : EM n m kd sk X) {x : Int32} (h : ¬ (0 ≤ x.toInt ∧ x.toInt < (n - 1 : Nat))) : f_Mod_noGate x X Y = rI 1 X Y := by
  have h6 := hE.2.2.1
  unfold f_Mod_noGate
  rw [hE.1, show (0 : Int64) = (0 : Int32).toInt64 from by decide, m_inN, bi_rI, if_pos z00]
  by_cases h1 : x < 0
  · simp [ft, h1]
  · have h2 : nI n - 2 < x := by
      rw [i_lt, nI_m2 (by omega)]
      rw [i_lt, i0] at h1
      omega
    simp [ft, h2]
theorem six (k : Nat) : (6 : Int32) + nI k = nI (6 + k) := nI_add 6 k
theorem m_room (ha : a = 76 ∨ a = 77) (hE : EM n m kd sk X) (hk : k < 6) : f_Mod_room a (nI k) (setM X a g) Y = rI (rmP kd g k) (setM X a g) Y := by
  unfold f_Mod_room b_Mod_room_17 rmP dpP
  rw [ixb_nI hk (by decide), gd_t, cl_nI (by omega), (hE.set ha).2.2.2.2.1 k hk, ixb_nI (n := 15) (by omega) (by decide), gd_t, gd_t, setM_s (by omega)]
  split <;> rfl
theorem m_brine (hk : k < 6) : f_Mod_brine a (nI k) (setM X a g) Y = rI (brP g k) (setM X a g) Y := by
  unfold f_Mod_brine brP
  rw [six, ixb_nI (k := 6 + k) (by omega) (by decide), gd_t, ixb_nI (k := k) (by omega) (by decide), gd_t, cl_nI (by omega), cl_nI (by omega), setM_s (by omega), setM_s (by omega), gd_t, gd_t]
  split <;> rfl
theorem m_crustOf (hk : k < 6) : f_Mod_crustOf a (nI k) (setM X a g) Y = rI (crP g k) (setM X a g) Y := by
  unfold f_Mod_crustOf crP
  rw [six, ixb_nI (by omega) (by decide), gd_t, m_brine hk, bi_rI, cl_nI (by omega), setM_s (by omega)]
theorem m_flow (hk : k < 6) {x : Int32} (hnz : ¬ g k = 0) : f_Mod_flow a (nI k) x (setM X a g) Y = rI (goP g k x) (setM X a (drP g k x)) Y := by
  unfold f_Mod_flow drP goP
  rw [m_brine hk, bi_rI, six, ixb_nI (k := k) (by omega) (by decide), gd_t, cl_nI (k := k) (by omega), setM_s (by omega), nzb_lit hnz, gd_t, lt_e, gd_t, wr_t, upM _ (by omega), ixb_nI (k := 6 + k) (by omega) (by decide), gd_t, wr_t, cl_nI (by omega), setM_s (by omega), upM _ (by omega), upd_n _ _ (by omega)]
theorem m_salted (hk : k < 6) (s : Int32) : f_Mod_salted a (nI k) s (setM X a g) Y = rV (setM X a (upd g (6 + k) (cap (g (6 + k) + s)))) Y := by
  unfold f_Mod_salted cap
  rw [six, ixb_nI (by omega) (by decide), gd_t, lt_e, cl_nI (by omega), setM_s (by omega), wr_t, wr_t, upM _ (by omega), upM _ (by omega)]
  split <;> rfl
theorem m_goLet (hk : k < 5) {x : Int32} (hnz : ¬ g k = 0) : f_Mod_goLet a (nI k) x (setM X a g) Y = rI (goP g k x) (setM X a (leP g k x)) Y := by
  unfold f_Mod_goLet leP flP
  rw [m_flow (by omega) hnz, bi_rI, nI_up, ixb_nI (by omega) (by decide), gd_t, wr_t, cl_nI (by omega), setM_s (by omega), upM _ (by omega), m_salted (by omega), bv_rV, upd_n _ _ (by omega)]
theorem m_goSea (x : Int32) : f_Mod_goSea a x (setM X a g) Y = rV (setM X a (flP g 0 x ((2 : Int32) * x))) Y := by
  unfold f_Mod_goSea flP
  rw [show ixb (0 : Int32) 15 = true from by decide, gd_t, wr_t, show (0 : Int32).toNatClampNeg = 0 from by decide, setM_s (by omega), upM _ (by omega), show f_Mod_salted a (0 : Int32) ((2 : Int32) * x) (setM X a (upd g 0 (g 0 + x))) Y = _ from m_salted (k := 0) (by omega) ((2 : Int32) * x), bv_rV, upd_n _ _ (by omega)]
theorem m_canRake (hk : k < 6) : f_Mod_canRake a (nI k) (setM X a g) Y = rI (if rkB g k then 1 else 0) (setM X a g) Y := by
  unfold f_Mod_canRake rkB
  rw [ixb_nI (by omega) (by decide), gd_t, cl_nI (by omega), setM_s (by omega)]
  by_cases h1 : (1 : Int32) < g k
  · rw [if_pos h1]; simp [h1]
  · rw [if_neg h1, m_crustOf hk, bi_rI]
    by_cases h2 : crP g k ≤ 0
    · rw [if_pos h2]; simp [h2]
    · rw [if_neg h2]; simp [h1, h2]
theorem m_goRake (hk : k < 6) : f_Mod_goRake a (nI k) (setM X a g) Y = rI (crP g k) (setM X a (raP g k)) Y := by
  unfold f_Mod_goRake raP
  rw [m_crustOf hk, bi_rI, six, ixb_nI (by omega) (by decide), gd_t, wr_t, cl_nI (by omega), setM_s (by omega), upM _ (by omega), show ixb (13 : Int32) 15 = true from by decide, gd_t, gd_t, wr_t, wr_t, show (13 : Int32).toNatClampNeg = 13 from by decide, setM_s (by omega), upM _ (by omega), upM _ (by omega), upd_n _ _ (by omega)]
  unfold cap9
  split <;> rfl
theorem m_has (x : Int32) (k : Nat) : f_Mod_has x (nI k) X Y = rI (if hasB x k then 1 else 0) X Y := by
  unfold f_Mod_has hasB
  by_cases h : ((x >>> (nI k &&& 31)) &&& 1) = 1
  · rw [if_pos h]; simp [h]
  · rw [if_neg h]; simp [h]
theorem m_skyOf (ha : a = 76 ∨ a = 77) (hE : EM n m kd sk X) {t : Nat} (ht : t < 2 ^ 31) (hg : g 14 = nI t) : f_Mod_skyOf a (setM X a g) Y = rI (skP m sk t) (setM X a g) Y := by
  have hE2 := hE.set (g := g) ha
  unfold f_Mod_skyOf skP
  obtain ⟨h1, h2, h3, h4, h5, h6⟩ := hE2
  rw [h2, show ixb (14 : Int32) 15 = true from by decide, gd_t, show (14 : Int32).toNatClampNeg = 14 from by decide, setM_s (by omega), hg]
  by_cases hm : m = 0
  · subst hm; rfl
  · rw [if_neg (nI_ne0 (by omega) (by omega)), if_neg hm, nzb_lit (nI_ne0 (by omega) (by omega)), gd_t, pk_rem ht (by omega) (by omega)]
    have hlt : t % m < m := Nat.mod_lt _ (by omega)
    rw [ixb_nI (by omega) (by decide), gd_t, cl_nI (by omega), h6 _ (by omega)]
theorem m_weather (ha : a = 76 ∨ a = 77) (hE : EM n m kd sk X) (hk : k < 6) (e : Int32) : f_Mod_weather a (nI k) e (setM X a g) Y = rV (setM X a (wthP kd g e k)) Y := by
  have w55 : ∀ s0 : Int32, b_Mod_weather_55 a (nI k) s0 e (setM X a g) Y = rV (setM X a (upd g k (if e + s0 ≤ g k then g k - (e + s0) else 0))) Y := by
    intro s0
    unfold b_Mod_weather_55
    rw [lt_e, ixb_nI (by omega) (by decide), gd_t, cl_nI (by omega), setM_s (by omega), gd_t, wr_t, wr_t, upM _ (by omega), upM _ (by omega)]
    split <;> rfl
  unfold f_Mod_weather wthP
  by_cases h1 : 0 ≤ e
  · rw [if_pos h1, if_pos h1]
    unfold b_Mod_weather_54
    by_cases h2 : e ≤ 0
    · rw [if_pos h2, if_pos h2, w55]
    · rw [if_neg h2, if_neg h2, ixb_nI hk (by decide), gd_t, cl_nI (by omega), (hE.set ha).2.2.2.2.1 k hk, w55, w55]
      by_cases h3 : kd k = 2
      · rw [if_pos h3, if_pos h3]
      · rw [if_neg h3, if_neg h3]
  · rw [if_neg h1, if_neg h1, ixb_nI (by omega) (by decide), gd_t, m_room ha hE hk, bi_rI]
    unfold stR
    by_cases h2 : -e ≤ rmP kd g k
    · rw [if_pos h2, if_neg (by rw [i_lt]; rw [i_le] at h2; omega), wr_t, cl_nI (by omega), setM_s (by omega), upM _ (by omega)]
    · rw [if_neg h2, if_pos (by rw [i_lt]; rw [i_le] at h2; omega), m_room ha hE hk, bi_rI, wr_t, cl_nI (by omega), setM_s (by omega), upM _ (by omega)]
theorem ml_goDay1 (ha : a = 76 ∨ a = 77) (hE : EM n m kd sk X) (z : Int32) (kx : Int32 → HI → HL → Option Out) : ∀ d f i, i + d = n - 1 → d < f → ∃ w, l_Mod_goDay_2 a z kx f (nI i) (setM X a (lgP kd g i)) Y = kx w (setM X a (lgP kd g (n - 1))) Y := by
  have h6 := hE.2.2.1
  intro d
  induction d with
  | zero =>
    intro f i h hf
    obtain ⟨f, rfl⟩ : ∃ f', f = f' + 1 := ⟨f - 1, by omega⟩
    have e : i = n - 1 := by omega
    subst e
    refine ⟨nI (n - 1), ?_⟩
    rw [l_Mod_goDay_2, (hE.set ha).1, if_pos (by rw [i_le, nI_m1 (by omega), nI_toInt (by omega)]; omega)]
  | succ d ih =>
    intro f i h hf
    obtain ⟨f, rfl⟩ : ∃ f', f = f' + 1 := ⟨f - 1, by omega⟩
    obtain ⟨w, e1⟩ := ih f (i + 1) (by omega) (by omega)
    refine ⟨w, ?_⟩
    rw [lgP, stL_m] at e1
    rw [l_Mod_goDay_2, (hE.set ha).1, if_neg (by rw [i_le, nI_m1 (by omega), nI_toInt (by omega)]; omega), show ixb (12 : Int32) 15 = true from by decide, gd_t, show (12 : Int32).toNatClampNeg = 12 from by decide, setM_s (by omega), m_has, bi_rI]
    unfold b_Mod_goDay_47
    cases ho : hasB (lgP kd g i 12) i with
    | false =>
      rw [ho, if_neg (by decide)] at e1
      rw [if_pos zif, nI_up]
      exact e1
    | true =>
      rw [ho, if_pos rfl] at e1
      rw [if_neg oif, ixb_nI (by omega) (by decide), gd_t, cl_nI (by omega), setM_s (by omega)]
      by_cases h1 : lgP kd g i i ≤ 0
      · rw [if_pos h1] at e1
        rw [if_pos h1, nI_up]
        exact e1
      · rw [if_neg h1] at e1
        rw [if_neg h1, nI_up, m_room ha hE (by omega), bi_rI]
        by_cases h2 : rmP kd (lgP kd g i) (i + 1) ≤ 0
        · rw [if_pos h2] at e1
          rw [if_pos h2]
          exact e1
        · rw [if_neg h2] at e1
          rw [if_neg h2, m_goLet (by omega) (by intro e; apply h1; rw [e]; exact Int32.le_refl 0), bi_rI]
          exact e1
theorem ml_goDay2 (ha : a = 76 ∨ a = 77) (hE : EM n m kd sk X) (z : Int32) (kx : Int32 → HI → HL → Option Out) : ∀ d f i, i + d = n → d < f → l_Mod_goDay_55 a z kx f (nI i) (setM X a (lkP kd g i)) Y = kx (nI n) (setM X a (lkP kd g n)) Y := by
  have h6 := hE.2.2.1
  intro d
  induction d with
  | zero =>
    intro f i h hf
    obtain ⟨f, rfl⟩ : ∃ f', f = f' + 1 := ⟨f - 1, by omega⟩
    have e : i = n := by omega
    subst e
    rw [l_Mod_goDay_55, (hE.set ha).1, if_pos (nI_le (Nat.le_refl _) (by omega))]
  | succ d ih =>
    intro f i h hf
    obtain ⟨f, rfl⟩ : ∃ f', f = f' + 1 := ⟨f - 1, by omega⟩
    have e1 := ih f (i + 1) (by omega) (by omega)
    rw [lkP] at e1
    unfold stK at e1
    rw [l_Mod_goDay_55, (hE.set ha).1, if_neg (nI_ge (by omega) (by omega)), ixb_nI (n := 6) (by omega) (by decide), gd_t, cl_nI (by omega), (hE.set ha).2.2.2.2.1 i (by omega)]
    unfold b_Mod_goDay_86
    by_cases hk : kd i = 3
    · rw [if_pos hk] at e1
      rw [if_pos hk, ixb_nI (by omega) (by decide), gd_t, setM_s (by omega)]
      by_cases h1 : lkP kd g i i ≤ 0
      · rw [if_neg (by rw [i_le, i1]; rw [i_le, i0] at h1; omega)] at e1
        rw [if_pos h1, nI_up]
        exact e1
      · rw [if_pos (by rw [i_le, i1]; rw [i_le, i0] at h1; omega)] at e1
        rw [if_neg h1, m_flow (by omega) (by intro e; apply h1; rw [e]; exact Int32.le_refl 0), bi_rI, nI_up]
        exact e1
    · rw [if_neg hk] at e1
      rw [if_neg hk, nI_up]
      exact e1
theorem ml_goDay3 (ha : a = 76 ∨ a = 77) (hE : EM n m kd sk X) (e : Int32) (kx : Int32 → HI → HL → Option Out) : ∀ d f i, i + d = n → d < f → l_Mod_goDay_115 a e kx f (nI i) (setM X a (watP kd g e i)) Y = kx (nI n) (setM X a (watP kd g e n)) Y := by
  have h6 := hE.2.2.1
  intro d
  induction d with
  | zero =>
    intro f i h hf
    obtain ⟨f, rfl⟩ : ∃ f', f = f' + 1 := ⟨f - 1, by omega⟩
    have e : i = n := by omega
    subst e
    rw [l_Mod_goDay_115, (hE.set ha).1, if_pos (nI_le (Nat.le_refl _) (by omega))]
  | succ d ih =>
    intro f i h hf
    obtain ⟨f, rfl⟩ : ∃ f', f = f' + 1 := ⟨f - 1, by omega⟩
    rw [l_Mod_goDay_115, (hE.set ha).1, if_neg (nI_ge (by omega) (by omega)), m_weather ha hE (by omega), bv_rV, nI_up]
    exact ih f (i + 1) (by omega) (by omega)
theorem watP_hi (kd g : Pg) (e : Int32) {j : Nat} (hj : 6 ≤ j) : ∀ i, i ≤ 6 → watP kd g e i j = g j
  | 0, _ => rfl
  | i + 1, hi => by
    rw [watP]
    unfold wthP stR
    split
    · rw [upd_n _ _ (by omega), watP_hi kd g e hj i (by omega)]
    · rw [upd_n _ _ (by omega), watP_hi kd g e hj i (by omega)]
theorem m_goDay (ha : a = 76 ∨ a = 77) (hE : EM n m kd sk X) {t : Nat} (ht : t < 2 ^ 31) (hg : g 14 = nI t) (c : Bool) : f_Mod_goDay a (if c then 0 else 1) (setM X a g) Y = rV (setM X a (dayM n m kd sk g c)) Y := by
  have h6 := hE.2.2.1
  have e14 : lkP kd (lgP kd g (n - 1)) n 14 = nI t := by rw [lkP_hi _ _ (by omega) n h6, lgP_hi _ _ (by omega) (n - 1) (by omega), hg]
  have fin : ∀ (q : Pg) (e : Int32), b_Mod_goDay_111 a e (setM X a q) Y = rV (setM X a (upd (watP kd q e n) 14 (q 14 + 1))) Y := by
    intro q e
    unfold b_Mod_goDay_111
    have d3 := ml_goDay3 (g := q) (Y := Y) ha hE e (fun w24 X25 Y26 =>
      gd (ixb (14 : Int32) 15) (
      wr (ixb (14 : Int32) 15) (up X25 a (14 : Int32).toNatClampNeg ((X25 a (14 : Int32).toNatClampNeg) + (1 : Int32))) (fun X27 =>
      (rV X27 Y26)))) n 256 0 (by omega) (by omega)
    rw [show nI 0 = (0 : Int32) from rfl, show watP kd q e 0 = q from rfl] at d3
    rw [d3, show ixb (14 : Int32) 15 = true from by decide, gd_t, wr_t, show (14 : Int32).toNatClampNeg = 14 from by decide, setM_s (by omega), upM _ (by omega), watP_hi _ _ _ (by omega) n h6]
  generalize hz : (if c = true then (0 : Int32) else 1) = z
  unfold f_Mod_goDay
  obtain ⟨w, d1⟩ := ml_goDay1 (g := g) (Y := Y) ha hE z (fun w10 X11 Y12 =>
    (l_Mod_goDay_55 a z (fun w16 X17 Y18 =>
    bi (f_Mod_skyOf a X17 Y18) (fun r21 X19 Y20 =>
    (if r21 ≤ 0 then
    (b_Mod_goDay_110 a r21 X19 Y20)
    else
    (if z = 0 then
    (b_Mod_goDay_111 a (0 : Int32) X19 Y20)
    else
    (b_Mod_goDay_110 a r21 X19 Y20))))) 256 (0 : Int32) X11 Y12)) (n - 1) 256 0 (by omega) (by omega)
  rw [show nI 0 = (0 : Int32) from rfl, show lgP kd g 0 = g from rfl] at d1
  rw [d1]
  have d2 := ml_goDay2 (g := lgP kd g (n - 1)) (Y := Y) ha hE z (fun w16 X17 Y18 =>
    bi (f_Mod_skyOf a X17 Y18) (fun r21 X19 Y20 =>
    (if r21 ≤ 0 then
    (b_Mod_goDay_110 a r21 X19 Y20)
    else
    (if z = 0 then
    (b_Mod_goDay_111 a (0 : Int32) X19 Y20)
    else
    (b_Mod_goDay_110 a r21 X19 Y20))))) n 256 0 (by omega) (by omega)
  rw [show nI 0 = (0 : Int32) from rfl, show lkP kd (lgP kd g (n - 1)) 0 = lgP kd g (n - 1) from rfl] at d2
  rw [d2, m_skyOf ha hE ht e14, bi_rI]
  unfold dayM cldE b_Mod_goDay_110
  rw [hg, cl_nI ht]
  by_cases h1 : skP m sk t ≤ 0
  · rw [if_pos h1, if_pos h1, fin, e14]
  · rw [if_neg h1, if_neg h1]
    cases c with
    | true => rw [if_pos (show z = 0 from hz.symm), fin, e14, if_pos rfl]
    | false => rw [if_neg (by rw [← hz]; decide), fin, e14, if_neg (by decide)]
end MO
