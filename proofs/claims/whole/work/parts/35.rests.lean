/-! rests -/
theorem up_setC (X : HI) (g : Pg) {b : Nat} (j : Nat) (v : Int32) (h1 : b ≠ 19) (h2 : b ≠ 20) (h3 : b ≠ 21) : up (setC X 19 g) b j v = setC (up X b j v) 19 g := by
  funext a
  by_cases hab : a = b
  · subst hab
    rw [up_self, setC_o h1 h2 h3, setC_o h1 h2 h3, up_self]
  · rw [up_ne _ _ _ hab]
    unfold setC
    rw [up_ne _ _ _ (show (19 : Nat) ≠ b from fun e => h1 e.symm), up_ne _ _ _ (show (19 + 1 : Nat) ≠ b from fun e => h2 e.symm), up_ne _ _ _ (show (19 + 2 : Nat) ≠ b from fun e => h3 e.symm), up_ne _ _ _ hab]
theorem up_setM (X : HI) (g : Pg) {b : Nat} (j : Nat) (v : Int32) (h1 : b ≠ 77) : up (setM X 77 g) b j v = setM (up X b j v) 77 g := by
  funext a
  by_cases hab : a = b
  · subst hab
    rw [up_self, setM_o h1, setM_o h1, up_self]
  · rw [up_ne _ _ _ hab]
    unfold setM
    rw [up_ne _ _ _ (show (77 : Nat) ≠ b from fun e => h1 e.symm), up_ne _ _ _ hab]
def bh (k : Nat) : Bool := decide (k / 2 = 1)
def bl' (k : Nat) : Bool := decide (k % 2 = 1)
theorem bh_c : ∀ k, k < 4 → ((nI k >>> ((1 : Int32) &&& 31)) = 1 ↔ bh k = true) := by decide
theorem bl_c : ∀ k, k < 4 → ((nI k &&& 1) = 1 ↔ bl' k = true) := by decide
theorem bh_m : ∀ k, k < 4 → nI k / 2 = if bh k then (1 : Int32) else 0 := by decide
theorem bl_m : ∀ k, k < 4 → nI k - nI k / 2 * 2 = if bl' k then (1 : Int32) else 0 := by decide
theorem k10_c : ∀ k, k < 4 → (10 : Int32) * (nI k >>> ((1 : Int32) &&& 31)) + (nI k &&& 1) = nI (10 * (k / 2) + k % 2) := by decide
theorem k10_m : ∀ k, k < 4 → (10 : Int32) * (nI k / 2) + (nI k - nI k / 2 * 2) = nI (10 * (k / 2) + k % 2) := by decide
theorem x2_c : ∀ k, k < 4 → (2 : Int32) * (nI k ^^^ 2) = nI (2 * (k ^^^ 2)) ∧ 2 * (k ^^^ 2) < 8 := by decide
theorem x1_c : ∀ k, k < 4 → (2 : Int32) * (nI k ^^^ 1) + 1 = nI (2 * (k ^^^ 1) + 1) ∧ 2 * (k ^^^ 1) + 1 < 8 := by decide
theorem d2_c : ∀ k, k < 4 → (2 : Int32) * nI k = nI (2 * k) ∧ (2 : Int32) * nI k + 1 = nI (2 * k + 1) := by decide
def pgR (n m : Nat) (kd sk g : Pg) (a b k : Nat) : Pg := daysP n m kd sk (upd (upd g 12 (sgV (g 12) a (bh k))) 12 (sgV (upd g 12 (sgV (g 12) a (bh k)) 12) b (bl' k))) 3
def gnP (g : Pg) (a : Nat) : Int32 := crP g a + g (a + 1)
theorem s_weigh {X : HI} {Y : HL} {n m t a b k : Nat} {kd sk g : Pg} (hE : EC n m kd sk X) (hp : ∀ k, k < 15 → pgC X 16 k = g k) (h14 : g 14 = nI t) (ht : t + 3 < 2 ^ 31) (ha : a + 1 < n) (hb : b + 1 < n) (hk : k < 4) : f_Bri_weigh (nI k) (nI a) (nI b) X Y = rV (setC (up (up X 15 (2 * k) (gnP (pgR n m kd sk g a b k) a)) 15 (2 * k + 1) (gnP (pgR n m kd sk g a b k) b)) 19 (pgR n m kd sk g a b k)) Y := by
  have n6 := hE.2.2.1
  have fin : ∀ g1 : Pg, g1 14 = nI t → b_Bri_weigh_39 (nI k) (nI a) (nI b) (if bl' k then 1 else 0) (nI b) (setC X 19 g1) Y = rV (setC (up (up X 15 (2 * k) (gnP (daysP n m kd sk (upd g1 12 (sgV (g1 12) b (bl' k))) 3) a)) 15 (2 * k + 1) (gnP (daysP n m kd sk (upd g1 12 (sgV (g1 12) b (bl' k))) 3) b)) 19 (daysP n m kd sk (upd g1 12 (sgV (g1 12) b (bl' k))) 3)) Y := by
    intro g1 h1
    have hs : upd g1 12 (sgV (g1 12) b (bl' k)) 14 = nI t := by rw [upd_n _ _ (by decide)]; exact h1
    unfold b_Bri_weigh_39
    rw [s_setGate, bv_rV, show (3 : Int32) = nI 3 from rfl, s_passDays isP_19 hE (t := t) ht (by decide) hs, bv_rV]
    generalize daysP n m kd sk (upd g1 12 (sgV (g1 12) b (bl' k))) 3 = G
    rw [s_crustOf (by omega), bi_rI, nI_up, nI_up, ixb_nI (by omega) (by decide), gd_t, (d2_c k hk).1, ixb_nI (by omega) (by decide), wr_t, cl_nI (by omega), cl_nI (by omega), show (20 : Nat) = 19 + 1 from rfl, setC_w (by omega), up_setC _ _ _ _ (by decide) (by decide) (by decide), s_crustOf (by omega), bi_rI, ixb_nI (by omega) (by decide), gd_t]
    rw [show nI (2 * k) + (1 : Int32) = nI (2 * k + 1) from nI_up _, ixb_nI (by omega) (by decide), wr_t, cl_nI (by omega), cl_nI (by omega), setC_w (by omega), up_setC _ _ _ _ (by decide) (by decide) (by decide)]
    rfl
  have mid : b_Bri_weigh_21 (nI k) (nI a) (nI b) (if bh k then 1 else 0) (nI a) (setC X 19 g) Y = rV (setC (up (up X 15 (2 * k) (gnP (pgR n m kd sk g a b k) a)) 15 (2 * k + 1) (gnP (pgR n m kd sk g a b k) b)) 19 (pgR n m kd sk g a b k)) Y := by
    have hs : upd g 12 (sgV (g 12) a (bh k)) 14 = nI t := by rw [upd_n _ _ (by decide)]; exact h14
    have q := fin _ hs
    unfold b_Bri_weigh_21
    rw [s_setGate, bv_rV]
    cases hl : bl' k with
    | false =>
      rw [hl] at q
      rw [if_neg (fun z => by have := (bl_c k hk).mp z; rw [hl] at this; cases this)]
      have q2 := q
      unfold pgR
      rw [hl]
      exact q2
    | true =>
      rw [hl] at q
      rw [if_pos ((bl_c k hk).mpr hl)]
      unfold pgR
      rw [hl]
      exact q
  unfold f_Bri_weigh
  rw [s_fromNow hp, br_rR]
  cases hl : bh k with
  | false =>
    rw [hl] at mid
    rw [if_neg (fun z => by have := (bh_c k hk).mp z; rw [hl] at this; cases this)]
    exact mid
  | true =>
    rw [hl] at mid
    rw [if_pos ((bh_c k hk).mpr hl)]
    exact mid
theorem l_rests1 {X0 : HI} {Y : HL} {n m t a b : Nat} {kd sk g : Pg} (hE : EC n m kd sk X0) (hp : ∀ k, k < 15 → pgC X0 16 k = g k) (h14 : g 14 = nI t) (ht : t + 3 < 2 ^ 31) (ha : a + 1 < n) (hb : b + 1 < n) (x3 : Int32) (kx : Int32 → HI → HL → Option Out) : ∀ d f i (X : HI), i + d = 4 → d < f → smX X0 X → (∀ j, j < i → X 15 (2 * j) = gnP (pgR n m kd sk g a b j) a ∧ X 15 (2 * j + 1) = gnP (pgR n m kd sk g a b j) b) → ∃ X', smX X0 X' ∧ (∀ j, j < 4 → X' 15 (2 * j) = gnP (pgR n m kd sk g a b j) a ∧ X' 15 (2 * j + 1) = gnP (pgR n m kd sk g a b j) b) ∧ l_Bri_rests_44 (nI a) (nI b) x3 kx f (nI i) X Y = kx (nI 4) X' Y := by
  intro d
  induction d with
  | zero =>
    intro f i X h hf hX hv
    obtain ⟨f, rfl⟩ : ∃ f', f = f' + 1 := ⟨f - 1, by omega⟩
    have e : i = 4 := by omega
    subst e
    refine ⟨X, hX, hv, ?_⟩
    rw [l_Bri_rests_44, if_pos (show (4 : Int32) ≤ nI 4 by decide)]
  | succ d ih =>
    intro f i X h hf hX hv
    obtain ⟨f, rfl⟩ : ∃ f', f = f' + 1 := ⟨f - 1, by omega⟩
    rw [l_Bri_rests_44, if_neg (show ¬ (4 : Int32) ≤ nI i from nI_ge (b := 4) (by omega) (by omega)), s_weigh (hE.same hX) (g := g) (by rw [hX.p16]; exact hp) h14 ht ha hb (by omega), bv_rV, nI_up]
    refine ih f (i + 1) _ (by omega) (by omega) (((hX.tr (smX_up _ _ _ (by decide))).tr (smX_up _ _ _ (by decide))).tr (smX_C _ _)) ?_
    intro j hj
    rw [setC_o (by decide) (by decide) (by decide)]
    by_cases hji : j = i
    · subst hji
      rw [up_an _ _ _ _ (by omega), up_at, up_at]
      exact ⟨rfl, rfl⟩
    · rw [up_an _ _ _ _ (by omega), up_an _ _ _ _ (by omega), up_an _ _ _ _ (by omega), up_an _ _ _ _ (by omega)]
      exact hv j (by omega)
theorem m_lay {X : HI} {Y : HL} {g : Pg} {a : Nat} (ha : a < 32) (v : Bool) : f_Mod_lay (nI a) (if v then 1 else 0) (setM X 77 g) Y = rV (setM X 77 (upd g 12 (sgV (g 12) a v))) Y := by
  unfold f_Mod_lay
  rw [show ixb (12 : Int32) 15 = true from by decide, gd_t, wr_t, show (12 : Int32).toNatClampNeg = 12 from by decide, setM_s (by decide), upM _ (by decide)]
  have e := layV (g 12) ha v
  unfold bit at e
  rw [e]
theorem ml_rests1 {X0 : HI} {Y : HL} {n m t a b : Nat} {kd sk g : Pg} (hE : EM n m kd sk X0) (hs : okS4 sk) (hp : X0 76 = g) (hok : okG g) (h14 : g 14 = nI t) (ht : t + 3 < 2 ^ 31) (ha : a + 1 < n) (hb : b + 1 < n) (x3 : Int32) (kx : Int32 → HI → HL → Option Out) : ∀ d f i (X : HI), i + d = 4 → d < f → smX X0 X → (∀ j, j < i → X 84 (2 * j) = gnP (pgR n m kd sk g a b j) a ∧ X 84 (2 * j + 1) = gnP (pgR n m kd sk g a b j) b) → ∃ X', smX X0 X' ∧ (∀ j, j < 4 → X' 84 (2 * j) = gnP (pgR n m kd sk g a b j) a ∧ X' 84 (2 * j + 1) = gnP (pgR n m kd sk g a b j) b) ∧ l_Mod_rests_44 (nI a) (nI b) x3 kx f (nI i) X Y = kx (nI 4) X' Y := by
  have n6 := hE.2.2.1
  intro d
  induction d with
  | zero =>
    intro f i X h hf hX hv
    obtain ⟨f, rfl⟩ : ∃ f', f = f' + 1 := ⟨f - 1, by omega⟩
    have e : i = 4 := by omega
    subst e
    refine ⟨X, hX, hv, ?_⟩
    rw [l_Mod_rests_44, if_pos (show (4 : Int32) ≤ nI 4 by decide)]
  | succ d ih =>
    intro f i X h hf hX hv
    obtain ⟨f, rfl⟩ : ∃ f', f = f' + 1 := ⟨f - 1, by omega⟩
    have h76 : X 76 = g := hX.p76.trans hp
    have hM := hE.same hX
    have hi : i < 4 := by omega
    have h1 : (upd (upd g 12 (sgV (g 12) a (bh i))) 12 (sgV (upd g 12 (sgV (g 12) a (bh i)) 12) b (bl' i))) 14 = nI t := by rw [upd_n _ _ (by decide), upd_n _ _ (by decide)]; exact h14
    rw [l_Mod_rests_44, if_neg (show ¬ (4 : Int32) ≤ nI i from nI_ge (b := 4) (by omega) (by omega)), m_begin, bv_rV, show nzb (2 : Int32) = true from by decide, gd_t, bl_m i hi, bh_m i hi, h76, m_lay (by omega), bv_rV, gd_t, m_lay (by omega), bv_rV, show (3 : Int32) = nI 3 from rfl, m_goDays (Or.inr rfl) hM hs (okG_tu (okG_tu hok _) _) (t := t) ht (by decide) h1, bv_rV]
    rw [show daysP n m kd sk (upd (upd g 12 (sgV (g 12) a (bh i))) 12 (sgV (upd g 12 (sgV (g 12) a (bh i)) 12) b (bl' i))) 3 = pgR n m kd sk g a b i from rfl]
    have hcont := fun (X1 : HI) => ih f (i + 1) X1 (by omega) (by omega)
    rw [m_crustOf (by omega), bi_rI, nI_up, nI_up, nI_up, ixb_nI (by omega) (by decide), gd_t, (d2_c i hi).1, ixb_nI (by omega) (by decide), wr_t, cl_nI (by omega), cl_nI (by omega), setM_s (by omega), up_setM _ _ _ _ (by decide), m_crustOf (by omega), bi_rI, ixb_nI (by omega) (by decide), gd_t]
    rw [show nI (2 * i) + (1 : Int32) = nI (2 * i + 1) from nI_up _, ixb_nI (by omega) (by decide), wr_t, cl_nI (by omega), cl_nI (by omega), setM_s (by omega), up_setM _ _ _ _ (by decide)]
    refine hcont _ (((hX.tr (smX_up _ _ _ (by decide))).tr (smX_up _ _ _ (by decide))).tr (smX_M _ _)) ?_
    intro j hj
    rw [setM_o (by decide)]
    by_cases hji : j = i
    · subst hji
      rw [up_an _ _ _ _ (by omega), up_at, up_at]
      exact ⟨rfl, rfl⟩
    · rw [up_an _ _ _ _ (by omega), up_an _ _ _ _ (by omega), up_an _ _ _ _ (by omega), up_an _ _ _ _ (by omega)]
      exact hv j (by omega)
def resQ (G : Pg) (k : Nat) : Bool := !decide (G (2 * k) < G (2 * (k ^^^ 2))) && !decide (G (2 * k + 1) < G (2 * (k ^^^ 1) + 1))
def reR (G : Pg) : Nat → Nat × Int32
  | 0 => (0, -9)
  | k + 1 => if resQ G k then ((reR G k).1 + 1, if (reR G k).1 = 0 then nI (10 * (k / 2) + k % 2) else (reR G k).2) else reR G k
theorem reR_9 (G : Pg) : ∀ s, s ≤ 4 → (reR G s).1 ≤ s ∧ ((reR G s).2 = -9 ↔ (reR G s).1 = 0)
  | 0, _ => ⟨by simp [reR], by simp [reR]⟩
  | s + 1, hs => by
    obtain ⟨h1, h2⟩ := reR_9 G s (by omega)
    rw [reR]
    split
    · refine ⟨by show (reR G s).1 + 1 ≤ s + 1; omega, ?_⟩
      show (if (reR G s).1 = 0 then nI (10 * (s / 2) + s % 2) else (reR G s).2) = -9 ↔ (reR G s).1 + 1 = 0
      constructor
      · intro h
        split at h
        · exfalso
          have e := congrArg Int32.toInt h
          rw [nI_toInt (by omega), show (-9 : Int32).toInt = -9 from by decide] at e
          omega
        · next hz => exact absurd (h2.mp h) hz
      · intro h
        omega
    · exact ⟨by omega, h2⟩
theorem resQ_ext {G H : Pg} (h : ∀ j, j < 4 → G (2 * j) = H (2 * j) ∧ G (2 * j + 1) = H (2 * j + 1)) {k : Nat} (hk : k < 4) : resQ G k = resQ H k := by
  have e2 : k ^^^ 2 < 4 := by have := (x2_c k hk).2; omega
  have e1 : k ^^^ 1 < 4 := by have := (x1_c k hk).2; omega
  unfold resQ
  rw [(h k hk).1, (h k hk).2, (h _ e2).1, (h _ e1).2]
theorem s_isAtRest {X : HI} {Y : HL} {k : Nat} (hk : k < 4) : f_Bri_isAtRest (nI k) X Y = rI (b01 (resQ (X 15) k)) X Y := by
  unfold f_Bri_isAtRest resQ
  rw [(x2_c k hk).1, (x1_c k hk).1, (d2_c k hk).2, (d2_c k hk).1, ixb_nI (x2_c k hk).2 (by decide), gd_t, ixb_nI (by omega) (by decide), gd_t, ixb_nI (x1_c k hk).2 (by decide), gd_t, ixb_nI (by omega) (by decide), gd_t, cl_nI (k := 2 * (k ^^^ 2)) (by have := (x2_c k hk).2; omega), cl_nI (k := 2 * k) (by omega), cl_nI (k := 2 * (k ^^^ 1) + 1) (by have := (x1_c k hk).2; omega), cl_nI (k := 2 * k + 1) (by omega)]
  split
  · next h1 => rw [show decide (X 15 (2 * k) < X 15 (2 * (k ^^^ 2))) = true from decide_eq_true h1]; rfl
  · next h1 =>
    rw [show decide (X 15 (2 * k) < X 15 (2 * (k ^^^ 2))) = false from decide_eq_false h1]
    split
    · next h2 => rw [show decide (X 15 (2 * k + 1) < X 15 (2 * (k ^^^ 1) + 1)) = true from decide_eq_true h2]; rfl
    · next h2 => rw [show decide (X 15 (2 * k + 1) < X 15 (2 * (k ^^^ 1) + 1)) = false from decide_eq_false h2]; rfl
theorem l_rests2 {X : HI} {Y : HL} (x : Int32) (kx : Int32 → Int32 → Int32 → HI → HL → Option Out) : ∀ d f i, i + d = 4 → d < f → l_Bri_rests_74 x kx f (nI (reR (X 15) i).1) (reR (X 15) i).2 (nI i) X Y = kx (nI (reR (X 15) 4).1) (reR (X 15) 4).2 (nI 4) X Y := by
  intro d
  induction d with
  | zero =>
    intro f i h hf
    obtain ⟨f, rfl⟩ : ∃ f', f = f' + 1 := ⟨f - 1, by omega⟩
    have e : i = 4 := by omega
    subst e
    rw [l_Bri_rests_74, if_pos (show (4 : Int32) ≤ nI 4 by decide)]
  | succ d ih =>
    intro f i h hf
    obtain ⟨f, rfl⟩ : ∃ f', f = f' + 1 := ⟨f - 1, by omega⟩
    have e1 := ih f (i + 1) (by omega) (by omega)
    rw [show reR (X 15) (i + 1) = if resQ (X 15) i then ((reR (X 15) i).1 + 1, if (reR (X 15) i).1 = 0 then nI (10 * (i / 2) + i % 2) else (reR (X 15) i).2) else reR (X 15) i from rfl] at e1
    obtain ⟨q1, q2⟩ := reR_9 (X 15) i (by omega)
    rw [l_Bri_rests_74, if_neg (show ¬ (4 : Int32) ≤ nI i from nI_ge (b := 4) (by omega) (by omega)), s_isAtRest (by omega), bi_rI]
    unfold b_Bri_rests_113
    rw [k10_c i (by omega), nI_up, nI_up]
    cases ha : resQ (X 15) i with
    | false =>
      rw [ha, if_neg (show ¬ false = true by decide)] at e1
      rw [if_pos (show b01 false = 0 from rfl)]
      exact e1
    | true =>
      rw [ha, if_pos rfl] at e1
      rw [if_neg (show ¬ b01 true = 0 by decide)]
      by_cases h9 : (reR (X 15) i).2 = -9
      · rw [if_pos (q2.mp h9)] at e1
        rw [if_pos h9, lt_e]
        exact e1
      · rw [if_neg (fun z => h9 (q2.mpr z))] at e1
        rw [if_neg h9]
        exact e1
theorem ml_rests2 {X0 : HI} {Y : HL} {G : Pg} (x : Int32) (kx : Int32 → HI → HL → Option Out) : ∀ d f i (X : HI), i + d = 4 → d < f → smX X0 X → X 84 = G → X 70 27 = nI (reR G i).1 → X 70 28 = (reR G i).2 → ∃ X', smX X0 X' ∧ X' 70 27 = nI (reR G 4).1 ∧ X' 70 28 = (reR G 4).2 ∧ l_Mod_rests_155 x kx f (nI i) X Y = kx (nI 4) X' Y := by
  intro d
  induction d with
  | zero =>
    intro f i X h hf hX hG h27 h28
    obtain ⟨f, rfl⟩ : ∃ f', f = f' + 1 := ⟨f - 1, by omega⟩
    have e : i = 4 := by omega
    subst e
    refine ⟨X, hX, h27, h28, ?_⟩
    rw [l_Mod_rests_155, if_pos (show (4 : Int32) ≤ nI 4 by decide)]
  | succ d ih =>
    intro f i X h hf hX hG h27 h28
    obtain ⟨f, rfl⟩ : ∃ f', f = f' + 1 := ⟨f - 1, by omega⟩
    have hi : i < 4 := by omega
    have es : reR G (i + 1) = if resQ G i then ((reR G i).1 + 1, if (reR G i).1 = 0 then nI (10 * (i / 2) + i % 2) else (reR G i).2) else reR G i := rfl
    obtain ⟨q1, q2⟩ := reR_9 G i (by omega)
    have fin : ∀ c0 s0 : Int32, c0 = nI (reR G (i + 1)).1 → s0 = (reR G (i + 1)).2 → ∃ X', smX X0 X' ∧ X' 70 27 = nI (reR G 4).1 ∧ X' 70 28 = (reR G 4).2 ∧ l_Mod_rests_155 x kx f (nI (i + 1)) (up (up X 70 28 s0) 70 27 c0) Y = kx (nI 4) X' Y := by
      intro c0 s0 hc hs0
      exact ih f (i + 1) _ (by omega) (by omega) ((hX.tr (smX_70 X 28 s0 (by decide))).tr (smX_70 _ 27 c0 (by decide))) (by rw [up_ne _ _ _ (by decide), up_ne _ _ _ (by decide)]; exact hG) (by rw [up_at, hc]) (by rw [up_an _ _ _ _ (by decide), up_at, hs0])
    have fin0 : resQ G i = false → ∃ X', smX X0 X' ∧ X' 70 27 = nI (reR G 4).1 ∧ X' 70 28 = (reR G 4).2 ∧ b_Mod_rests_216 (fun a4 A B => l_Mod_rests_155 x kx f a4 A B) kx x (nI i) 0 X Y = kx (nI 4) X' Y := by
      intro hq
      rw [hq, if_neg (show ¬ false = true by decide)] at es
      unfold b_Mod_rests_216 b_Mod_rests_246 b_Mod_rests_250 b_Mod_rests_268
      rw [if_pos z00, lh_e, if_pos z00, lh_e, nI_up, up_an _ _ _ _ (show (27 : Nat) ≠ 28 by decide), h27, h28, Int32.add_zero]
      exact fin _ _ (by rw [es]) (by rw [es])
    rw [l_Mod_rests_155, if_neg (show ¬ (4 : Int32) ≤ nI i from nI_ge (b := 4) (by omega) (by omega))]
    rw [(x2_c i hi).1, (x1_c i hi).1, (d2_c i hi).2, (d2_c i hi).1, ixb_nI (x2_c i hi).2 (by decide), gd_t, ixb_nI (by omega) (by decide), gd_t, ixb_nI (x1_c i hi).2 (by decide), gd_t, ixb_nI (by omega) (by decide), gd_t, cl_nI (k := 2 * (i ^^^ 2)) (by have := (x2_c i hi).2; omega), cl_nI (k := 2 * i) (by omega), cl_nI (k := 2 * (i ^^^ 1) + 1) (by have := (x1_c i hi).2; omega), cl_nI (k := 2 * i + 1) (by omega), hG]
    unfold b_Mod_rests_215
    by_cases h1 : G (2 * i) < G (2 * (i ^^^ 2))
    · rw [if_pos h1]
      exact fin0 (by unfold resQ; rw [decide_eq_true h1]; rfl)
    · rw [if_neg h1]
      by_cases h2 : G (2 * i + 1) < G (2 * (i ^^^ 1) + 1)
      · rw [if_pos h2]
        exact fin0 (by unfold resQ; rw [decide_eq_true h2, Bool.not_true, Bool.and_false])
      · rw [if_neg h2]
        have hq : resQ G i = true := by unfold resQ; rw [decide_eq_false h1, decide_eq_false h2]; rfl
        rw [hq, if_pos rfl] at es
        unfold b_Mod_rests_216 b_Mod_rests_246 b_Mod_rests_250 b_Mod_rests_268
        rw [if_neg n10, show nzb (2 : Int32) = true from by decide, gd_t, gd_t, h27, h28, k10_m i hi, nI_up]
        by_cases hc0 : (reR G i).1 = 0
        · rw [if_pos hc0] at es
          rw [if_pos (show nI (reR G i).1 = 0 by rw [hc0]; rfl), lh_e, if_neg n10, lh_e, up_an _ _ _ _ (show (27 : Nat) ≠ 28 by decide), h27, nI_up]
          exact fin _ _ (by rw [es]) (by rw [es])
        · rw [if_neg hc0] at es
          rw [if_neg (show ¬ nI (reR G i).1 = 0 from nI_ne0 (by omega) (by omega)), lh_e, if_neg n10, lh_e, up_an _ _ _ _ (show (27 : Nat) ≠ 28 by decide), h27, nI_up]
          exact fin _ _ (by rw [es]) (by rw [es])
theorem reR_ext {G H : Pg} (h : ∀ j, j < 4 → G (2 * j) = H (2 * j) ∧ G (2 * j + 1) = H (2 * j + 1)) : ∀ k, k ≤ 4 → reR G k = reR H k
  | 0, _ => rfl
  | k + 1, hk => by
    rw [reR, reR, resQ_ext h (by omega), reR_ext h k (by omega)]
theorem ok_rests (x1 x2 x3 : Int32) : Ok (fun X Y => f_Bri_rests x1 x2 x3 X Y) (fun X Y => f_Mod_rests x1 x2 x3 X Y) := by
  apply Ok.ask
  intro T n m X Y hT hR hg hp
  obtain ⟨hE, h4, h6, hs4⟩ := id hg
  have hM := hg.em
  have n6 := hE.2.2.1
  obtain ⟨hpg, hok, hz, t, ht, h14⟩ := hp
  have hM1 := hM.same (thr X)
  have gen : ∀ r : Int32, f_Bri_rests x1 x2 x3 X Y = rI r X Y → f_Mod_rests x1 x2 x3 X Y = rI r (up X 70 0 0) Y → ∃ r X1 X2, f_Bri_rests x1 x2 x3 X Y = rI r X1 Y ∧ smX X X1 ∧ f_Mod_rests x1 x2 x3 X1 Y = rI r X2 Y ∧ smX X1 X2 := fun r h1 h2 => ⟨r, X, _, h1, smX.rf X, h2, thr X⟩
  by_cases hx1 : 0 ≤ x1.toInt ∧ x1.toInt < (n - 1 : Nat)
  · obtain ⟨a, ha, rfl⟩ := inN_of hx1
    by_cases hx2 : 0 ≤ x2.toInt ∧ x2.toInt < (n - 1 : Nat)
    · obtain ⟨b, hb, rfl⟩ := inN_of hx2
      by_cases hab : nI a = nI b
      · exact gen (-2) (by unfold f_Bri_rests; rw [s_hasGateY hE (by omega), bi_rI, if_neg n10, s_hasGateY hE (by omega), bi_rI, if_neg n10, if_pos hab]) (by unfold f_Mod_rests; rw [lh_e, m_noGateY hM1 (by omega), bi_rI, if_pos z00, m_noGateY hM1 (by omega), bi_rI, if_pos z00, if_pos hab])
      · cases hf : ft x3 0 1 with
        | false =>
          exact gen (-2) (by unfold f_Bri_rests; rw [s_hasGateY hE (by omega), bi_rI, if_neg n10, s_hasGateY hE (by omega), bi_rI, if_neg n10, if_neg hab, s_isFTn hf, bi_rI, if_pos z00]) (by unfold f_Mod_rests; rw [lh_e, m_noGateY hM1 (by omega), bi_rI, if_pos z00, m_noGateY hM1 (by omega), bi_rI, if_pos z00, if_neg hab, m_inN2 (a := 0) (b := 1) (by decide) (by decide) hf, bi_rI, if_pos z00])
        | true =>
          obtain ⟨X1, s1, v1, e1⟩ := l_rests1 (X0 := X) (Y := Y) (g := X 76) hE hpg h14 (by omega) (a := a) (b := b) (by omega) (by omega) x3 (fun w12 X13 Y14 =>
    (l_Bri_rests_74 x3 (fun w19 w20 w21 X22 Y23 =>
    (if x3 = 0 then
    (rI w19 X22 Y23)
    else
    (rI w20 X22 Y23))) 256 (0 : Int32) (-9 : Int32) (0 : Int32) X13 Y14)) 4 256 0 X (by omega) (by omega) (smX.rf X) (fun j hj => absurd hj (by omega))
          have e2 := l_rests2 (X := X1) (Y := Y) x3 (fun w19 w20 w21 X22 Y23 =>
    (if x3 = 0 then
    (rI w19 X22 Y23)
    else
    (rI w20 X22 Y23))) 4 256 0 (by omega) (by omega)
          have s2 := s1.tr (thr X1)
          have hM2 := hM.same s2
          obtain ⟨X2, s3, v2, e3⟩ := ml_rests1 (X0 := X) (Y := Y) (g := X 76) hM hs4 rfl hok h14 (by omega) (a := a) (b := b) (by omega) (by omega) x3 (fun w27 X28 Y29 =>
    lh (up X28 70 27 (0 : Int32)) (fun X30 =>
    lh (up X30 70 28 (-9 : Int32)) (fun X31 =>
    (l_Mod_rests_155 x3 (fun w34 X35 Y36 =>
    (if x3 = 0 then
    (rI (X35 70 27) X35 Y36)
    else
    (rI (X35 70 28) X35 Y36))) 256 (0 : Int32) X31 Y29)))) 4 256 0 (up X1 70 0 0) (by omega) (by omega) s2 (fun j hj => absurd hj (by omega))
          have s4 := (s3.tr (smX_70 X2 27 0 (by decide))).tr (smX_70 _ 28 (-9) (by decide))
          obtain ⟨X3, s5, w27, w28, e4⟩ := ml_rests2 (X0 := X) (Y := Y) (G := X2 84) x3 (fun w34 X35 Y36 =>
    (if x3 = 0 then
    (rI (X35 70 27) X35 Y36)
    else
    (rI (X35 70 28) X35 Y36))) 4 256 0 _ (by omega) (by omega) s4 (by rw [up_ne _ _ _ (by decide), up_ne _ _ _ (by decide)]) (by rw [up_an _ _ _ _ (by decide), up_at]; rfl) (by rw [up_at]; rfl)
          have er : reR (X2 84) 4 = reR (X1 15) 4 := reR_ext (fun j hj => ⟨(v2 j hj).1.trans (v1 j hj).1.symm, (v2 j hj).2.trans (v1 j hj).2.symm⟩) 4 (by omega)
          rw [er] at w27 w28
          refine ⟨if x3 = 0 then nI (reR (X1 15) 4).1 else (reR (X1 15) 4).2, X1, X3, ?_, s1, ?_, s1.sym.tr s5⟩
          · show f_Bri_rests (nI a) (nI b) x3 X Y = _
            unfold f_Bri_rests
            rw [s_hasGateY hE (by omega), bi_rI, if_neg n10, s_hasGateY hE (by omega), bi_rI, if_neg n10, if_neg hab, s_isFTy hf, bi_rI, if_neg n10]
            refine Eq.trans e1 (Eq.trans e2 ?_)
            split <;> rfl
          · show f_Mod_rests (nI a) (nI b) x3 X1 Y = _
            unfold f_Mod_rests
            rw [lh_e, m_noGateY hM2 (by omega), bi_rI, if_pos z00, m_noGateY hM2 (by omega), bi_rI, if_pos z00, if_neg hab, m_inY2 (a := 0) (b := 1) (by decide) (by decide) hf, bi_rI, if_neg n10]
            refine Eq.trans e3 ?_
            rw [lh_e, lh_e]
            refine Eq.trans e4 ?_
            show (if x3 = 0 then rI (X3 70 27) X3 Y else rI (X3 70 28) X3 Y) = _
            rw [w27, w28]
            split <;> rfl
    · exact gen (-1) (by unfold f_Bri_rests; rw [s_hasGateY hE (by omega), bi_rI, if_neg n10, s_hasGateN hE hx2, bi_rI, if_pos z00]) (by unfold f_Mod_rests; rw [lh_e, m_noGateY hM1 (by omega), bi_rI, if_pos z00, m_noGateN hM1 hx2, bi_rI, if_neg n10])
  · exact gen (-1) (by unfold f_Bri_rests; rw [s_hasGateN hE hx1, bi_rI, if_pos z00]) (by unfold f_Mod_rests; rw [lh_e, m_noGateN hM1 hx1, bi_rI, if_neg n10])
