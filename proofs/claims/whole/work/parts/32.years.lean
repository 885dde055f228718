/-! years, salts -/
def lot (y : Int64) : Nat := y.toBitVec.toNat / 2 ^ 33 % 24
theorem lot_e (y : Int64) : (((y).toUInt64 >>> ((33 : Int32).toInt64.toUInt64 &&& Int64.toUInt64 63)).toInt64 - ((y).toUInt64 >>> ((33 : Int32).toInt64.toUInt64 &&& Int64.toUInt64 63)).toInt64 / (24 : Int64) * (24 : Int64)).toInt32 = nI (lot y) := by
  obtain ⟨k, hk, rfl⟩ := wb_of y
  unfold lot
  rw [wb_tn hk, show (33 : Int32) = nI 33 from rfl, wb_shr hk (by decide), show (24 : Int64) = lN 24 from rfl]
  have h1 : k / 2 ^ 33 < 2 ^ 31 := by
    rw [Nat.div_lt_iff_lt_mul (by decide)]
    omega
  rw [pk_lRem (by omega) (by omega) (by omega), lN_i]
def lotV (x : Nat) : Nat := if x < 5 then 300 + x else if x < 10 then 201 + 10 * (x - 5) else if x < 12 then 103 else 0
theorem lotV_b {x : Nat} (h : x < 24) : lotV x < 1000 := by
  unfold lotV
  split
  · omega
  · split
    · omega
    · split <;> omega
theorem s_befall {X : HI} {Y : HL} {n m : Nat} {kd sk g : Pg} {t x : Nat} (hE : EC n m kd sk X) (hok : okG g) (ht : t < 2 ^ 31) (hg : g 14 = nI t) (hx : x < 24) : f_Pan_befall 19 (nI x) (setC X 19 g) Y = rV (setC X 19 (doV n m kd sk g (lotV x)).2) Y := by
  have n6 := hE.2.2.1
  unfold f_Pan_befall doV lotV
  by_cases h5 : x < 5
  · rw [if_neg (show ¬ (5 : Int32) ≤ nI x from nI_ge (b := 5) h5 (by omega)), if_pos h5, show (300 + x) / 100 = 3 by omega, show (300 + x) / 10 % 10 = 0 by omega, show (300 + x) % 10 = x by omega]
    unfold doR
    rw [if_neg (show ¬ (3 : Nat) = 0 by decide), if_neg (show ¬ (3 : Nat) = 1 by decide), if_neg (show ¬ (3 : Nat) = 2 by decide), if_pos (show (3 : Nat) = 3 from rfl)]
    by_cases h : x + 1 < n
    · have e := s_turnGate (Y := Y) (g := g) isP_19 hE h
      unfold turnR at e
      rw [if_pos ⟨rfl, h⟩, e, bi_rI]
    · rw [if_neg (fun q => h q.2), s_turnGateN isP_19 hE (by rw [inN_nI (by omega)]; omega), bi_rI]
  · rw [if_pos (show (5 : Int32) ≤ nI x from nI_le (a := 5) (by omega) (by omega)), if_neg h5]
    by_cases h10 : x < 10
    · rw [if_neg (show ¬ (10 : Int32) ≤ nI x from nI_ge (b := 10) h10 (by omega)), if_pos h10, show (5 : Int32) = nI 5 from rfl, pk_sub (by omega), show (201 + 10 * (x - 5)) / 100 = 2 by omega, show (201 + 10 * (x - 5)) / 10 % 10 = x - 5 by omega, show (201 + 10 * (x - 5)) % 10 = 1 by omega]
      unfold doR
      rw [if_neg (show ¬ (2 : Nat) = 0 by decide), if_neg (show ¬ (2 : Nat) = 1 by decide), if_pos (show (2 : Nat) = 2 from rfl), show (1 : Int32) = nI 1 from rfl]
      by_cases h : x - 5 + 1 < n ∧ 1 ≤ 1 ∧ ¬ g (x - 5) < nI 1 ∧ ¬ rmP kd g (x - 5 + 1) < nI 1
      · obtain ⟨r, r1, r2⟩ := c_letY (Y := Y) hE hok (by omega) h
        rw [if_pos h, r2, bi_rI]
      · obtain ⟨r, r1, r2⟩ := c_letN (Y := Y) hE (by omega) (by omega) h
        rw [if_neg h, r2, bi_rI]
    · rw [if_pos (show (10 : Int32) ≤ nI x from nI_le (a := 10) (by omega) (by omega)), if_neg h10]
      by_cases h12 : x < 12
      · rw [if_neg (show ¬ (12 : Int32) ≤ nI x from nI_ge (b := 12) h12 (by omega)), if_pos h12]
        unfold doR
        rw [if_neg (show ¬ (103 / 100 : Nat) = 0 by decide), if_pos (show (103 / 100 : Nat) = 1 by decide), show (103 / 10 % 10 : Nat) = 0 by decide, show (103 % 10 : Nat) = 3 by decide, show (3 : Int32) = nI 3 from rfl]
        by_cases h : 0 < n ∧ 1 ≤ 3 ∧ ¬ rmP kd g 0 < nI 3
        · obtain ⟨r, r1, r2⟩ := c_seaY (Y := Y) hE hok (by omega) h
          rw [if_pos ⟨rfl, h⟩, r2, bi_rI]
        · obtain ⟨r, r1, r2⟩ := c_seaN (Y := Y) hE (by omega) h
          rw [if_neg (fun q => h q.2), r2, bi_rI]
      · have e := s_passDay (Y := Y) (g := g) isP_19 hE ht hg 0
        rw [show (!decide ((0 : Int32) = 0)) = false from by decide] at e
        rw [if_pos (show (12 : Int32) ≤ nI x from nI_le (a := 12) (by omega) (by omega)), if_neg h12, e, bv_rV]
        rfl
def sdN (s : Int64) : Int64 := s * (6364136223846793005 : Int64) + (1442695040888963407 : Int64)
def lv (s : Int64) : Nat := lotV (lot s)
theorem lv_e (s : Int64) : lotV (lot s) = lv s := rfl
def yeG (nx : Int64 → Int64) (q : Int64 → Nat) (n m : Nat) (kd sk : Pg) : Nat → Int64 → Int32 → Pg → Int32 × (Int64 × Pg)
  | 0, s, c, g => (c, s, g)
  | d + 1, s, c, g => yeG nx q n m kd sk d (nx s) (c + crA (doV n m kd sk g (q (nx s))).2 n) (doV n m kd sk g (q (nx s))).2
theorem yeG_s (nx : Int64 → Int64) (q : Int64 → Nat) (n m : Nat) (kd sk : Pg) (d : Nat) (s : Int64) (c : Int32) (g : Pg) : yeG nx q n m kd sk (d + 1) s c g = yeG nx q n m kd sk d (nx s) (c + crA (doV n m kd sk g (q (nx s))).2 n) (doV n m kd sk g (q (nx s))).2 := rfl
theorem yeG_0 (nx : Int64 → Int64) (q : Int64 → Nat) (n m : Nat) (kd sk : Pg) (s : Int64) (c : Int32) (g : Pg) : yeG nx q n m kd sk 0 s c g = (c, s, g) := rfl
theorem sdN_e (s : Int64) : s * (6364136223846793005 : Int64) + (1442695040888963407 : Int64) = sdN s := rfl
theorem okG_doV {n m : Nat} {kd sk g : Pg} (n6 : n ≤ 6) (m5 : m ≤ 5) (hs : okS4 sk) (hok : okG g) (v : Nat) : okG (doV n m kd sk g v).2 := by
  unfold doV
  exact okG_do n6 m5 hs hok (by omega)
theorem do_14V {n m : Nat} {kd sk g : Pg} {t : Nat} (n6 : n ≤ 6) (hg : g 14 = nI t) (v : Nat) : ∃ t', t' ≤ t + 1 ∧ (doV n m kd sk g v).2 14 = nI t' := by
  unfold doV
  exact do_14 n6 hg
theorem upY_upY (Y : HL) (a : Nat) (v w : Int64) : upY (upY Y a v) a w = upY Y a w := by
  funext b
  unfold upY
  split <;> rfl
theorem upY_id (Y : HL) (a : Nat) : upY Y a (Y a) = Y := by
  funext b
  unfold upY
  split
  · next h => rw [h]
  · rfl
theorem lot_b (s : Int64) : lot s < 24 := Nat.mod_lt _ (by decide)
theorem l_years {X : HI} {Y : HL} {n m c : Nat} {kd sk : Pg} (hE : EC n m kd sk X) (hs : okS4 sk) (hc : c ≤ 30) : ∀ d f i (g : Pg) (t : Nat) (s : Int64) (acc : Int32), i + d = c → d < f → t + d < 2 ^ 31 → g 14 = nI t → okG g → l_Bri_years_23 (nI c) (fun w13 w14 X15 Y16 => (rI w13 X15 Y16)) f acc (nI i) (setC X 19 g) (upY Y 0 s) = rI (yeG sdN lv n m kd sk d s acc g).1 (setC X 19 (yeG sdN lv n m kd sk d s acc g).2.2) (upY Y 0 (yeG sdN lv n m kd sk d s acc g).2.1) := by
  intro d
  induction d with
  | zero =>
    intro f i g t s acc h hf ht hg hok
    obtain ⟨f, rfl⟩ : ∃ f', f = f' + 1 := ⟨f - 1, by omega⟩
    have e : i = c := by omega
    subst e
    rw [l_Bri_years_23, if_pos (nI_le (Nat.le_refl _) (by omega)), yeG_0]
  | succ d ih =>
    intro f i g t s acc h hf ht hg hok
    obtain ⟨f, rfl⟩ : ∃ f', f = f' + 1 := ⟨f - 1, by omega⟩
    have hl := lot_b (sdN s)
    obtain ⟨t', ht', h14⟩ := do_14V (m := m) (kd := kd) (sk := sk) hE.2.2.1 hg (lv (sdN s))
    have hok' := okG_doV (kd := kd) hE.2.2.1 hE.2.2.2.1 hs hok (lv (sdN s))
    rw [l_Bri_years_23, if_neg (nI_ge (by omega) (by omega)), lhY_e, upY_self, upY_upY, upY_self, show nzl (24 : Int64) = true from by decide, gd_t, sdN_e, lot_e, s_befall hE hok (t := t) (by omega) hg hl, lv_e, bv_rV, s_crustOfAll isP_19 hE, bi_rI, lt_e, nI_up, yeG_s]
    generalize (doV n m kd sk g (lv (sdN s))).2 = g' at h14 hok' ⊢
    generalize sdN s = s'
    exact ih f (i + 1) g' t' s' _ (by omega) (by omega) (by omega) h14 hok'
theorem ml_years {X : HI} {Y : HL} {n m c : Nat} {kd sk : Pg} (hE : EM n m kd sk X) (hs : okS4 sk) (hc : c ≤ 30) : ∀ d f i (g : Pg) (t : Nat) (s : Int64) (acc : Int32), i + d = c → d < f → t + d < 2 ^ 31 → g 14 = nI t → okG g → l_Mod_years_28 (nI c) (fun w16 w17 X18 Y19 => (rI w16 X18 Y19)) f acc (nI i) (setM X 77 g) (upY Y 70 s) = rI (yeG sdN lv n m kd sk d s acc g).1 (setM X 77 (yeG sdN lv n m kd sk d s acc g).2.2) (upY Y 70 (yeG sdN lv n m kd sk d s acc g).2.1) := by
  intro d
  induction d with
  | zero =>
    intro f i g t s acc h hf ht hg hok
    obtain ⟨f, rfl⟩ : ∃ f', f = f' + 1 := ⟨f - 1, by omega⟩
    have e : i = c := by omega
    subst e
    rw [l_Mod_years_28, if_pos (nI_le (Nat.le_refl _) (by omega)), yeG_0]
  | succ d ih =>
    intro f i g t s acc h hf ht hg hok
    obtain ⟨f, rfl⟩ : ∃ f', f = f' + 1 := ⟨f - 1, by omega⟩
    have hl := lot_b (sdN s)
    obtain ⟨t', ht', h14⟩ := do_14V (m := m) (kd := kd) (sk := sk) hE.2.2.1 hg (lv (sdN s))
    have hok' := okG_doV (kd := kd) hE.2.2.1 hE.2.2.2.1 hs hok (lv (sdN s))
    have key : b_Mod_years_113 (fun a2 a3 A B => l_Mod_years_28 (nI c) (fun w16 w17 X18 Y19 => (rI w16 X18 Y19)) f a2 a3 A B) (fun w16 w17 X18 Y19 => (rI w16 X18 Y19)) (nI c) acc (nI i) (nI (lv (sdN s))) (setM X 77 g) (upY Y 70 (sdN s)) = rI (yeG sdN lv n m kd sk (d + 1) s acc g).1 (setM X 77 (yeG sdN lv n m kd sk (d + 1) s acc g).2.2) (upY Y 70 (yeG sdN lv n m kd sk (d + 1) s acc g).2.1) := by
      unfold b_Mod_years_113
      rw [m_does hE hs hok (t := t) (by omega) hg (lv_e (sdN s) ▸ lotV_b hl), bi_rI, m_crustOfAll (Or.inr rfl) hE, bi_rI, lt_e, nI_up, yeG_s]
      generalize (doV n m kd sk g (lv (sdN s))).2 = g' at h14 hok' ⊢
      generalize sdN s = s'
      exact ih f (i + 1) g' t' s' _ (by omega) (by omega) (by omega) h14 hok'
    rw [l_Mod_years_28, if_neg (nI_ge (by omega) (by omega)), lhY_e, upY_self, upY_upY, upY_self, show nzl (24 : Int64) = true from by decide, gd_t, lt_e, sdN_e, lot_e]
    generalize yeG sdN lv n m kd sk (d + 1) s acc g = G at key ⊢
    rw [← lv_e] at key
    generalize lot (sdN s) = x at hl key ⊢
    unfold lotV at key
    by_cases h5 : x < 5
    · rw [if_pos h5] at key
      rw [if_neg (show ¬ (5 : Int32) ≤ nI x from nI_ge (b := 5) h5 (by omega)), show (300 : Int32) + nI x = nI (300 + x) from nI_add 300 x]
      exact key
    · rw [if_neg h5] at key
      rw [if_pos (show (5 : Int32) ≤ nI x from nI_le (a := 5) (by omega) (by omega))]
      by_cases h10 : x < 10
      · rw [if_pos h10] at key
        rw [if_neg (show ¬ (10 : Int32) ≤ nI x from nI_ge (b := 10) h10 (by omega)), show (5 : Int32) = nI 5 from rfl, pk_sub (by omega), show (10 : Int32) = nI 10 from rfl, pk_mul, show (201 : Int32) = nI 201 from rfl, nI_add]
        exact key
      · rw [if_neg h10] at key
        rw [if_pos (show (10 : Int32) ≤ nI x from nI_le (a := 10) (by omega) (by omega))]
        by_cases h12 : x < 12
        · rw [if_pos h12] at key
          rw [if_neg (show ¬ (12 : Int32) ≤ nI x from nI_ge (b := 12) h12 (by omega))]
          exact key
        · rw [if_neg h12] at key
          rw [if_pos (show (12 : Int32) ≤ nI x from nI_le (a := 12) (by omega) (by omega))]
          exact key
theorem ok_years (x : Int32) : Ok (fun X Y => f_Bri_years x X Y) (fun X Y => f_Mod_years x X Y) := by
  intro T X Y hT hR
  obtain ⟨n, m, hg, ht, hp, hh, hk, hf, hy⟩ := id hR
  obtain ⟨hE, h4, h6, hs4⟩ := id hg
  have hM := hg.em
  obtain ⟨hpg, hok, hz, t, ht2, h14⟩ := id hp
  cases hx : ft x 1 30 with
  | false =>
    refine ⟨-2, X, Y, up X 70 0 0, Y, ?_, ?_, (hR.same (thr X)).mono (by omega)⟩
    · show f_Bri_years x X Y = _
      unfold f_Bri_years
      rw [s_isFTn hx, bi_rI, if_pos z00]
    · show f_Mod_years x X Y = _
      unfold f_Mod_years
      rw [lh_e, m_inN2 (a := 1) (b := 30) (by decide) (by decide) hx, bi_rI, if_pos z00]
  | true =>
    obtain ⟨c, hc1, hc2, rfl⟩ := ft_nat (a := 1) (b := 30) (by decide) (by decide) hx
    have e1 := l_years (X := X) (Y := Y) hE hs4 hc2 c 256 0 (X 76) t (Y 0) 0 (by omega) (by omega) (by omega) h14 hok
    rw [upY_id] at e1
    generalize hR1 : yeG sdN lv n m (X 72) (X 73) c (Y 0) 0 (X 76) = R at e1
    obtain ⟨r, s, g'⟩ := R
    have s1 := smX_C X g'
    have s2 := s1.tr (thr (setC X 19 g'))
    have hM2 := hM.same s2
    have e2 := ml_years (X := up (setC X 19 g') 70 0 0) (Y := upY Y 0 s) hM2 hs4 hc2 c 256 0 (X 76) t (Y 0) 0 (by omega) (by omega) (by omega) h14 hok
    have ey : upY (upY Y 0 s) 70 (Y 0) = upY Y 0 s := by
      have := upY_id (upY Y 0 s) 70
      rw [upY_ne _ _ (by decide : (70 : Nat) ≠ 0), ← hy] at this
      exact this
    rw [ey, hR1] at e2
    refine ⟨r, setC X 19 g', upY Y 0 s, setM (up (setC X 19 g') 70 0 0) 77 g', upY (upY Y 0 s) 70 s, ?_, ?_, ?_⟩
    · show f_Bri_years (nI c) X Y = _
      unfold f_Bri_years
      rw [s_isFTy hx, bi_rI, if_neg n10, s_fromNow hpg, br_rR]
      exact e1
    · show f_Mod_years (nI c) _ _ = _
      unfold f_Mod_years
      rw [lh_e, m_inY2 (a := 1) (b := 30) (by decide) (by decide) hx, bi_rI, if_neg n10, m_begin, bv_rV, s2.p76]
      exact e2
    · obtain ⟨n, m, hg, ht, hp, hh, hk, hf, hy⟩ := ((hR.same s2).same (smX_M _ g')).mono (by omega : T ≤ T + 1)
      exact ⟨n, m, hg, ht, hp, hh, hk, hf, by rw [upY_self, upY_ne _ _ (by decide : (0 : Nat) ≠ 70), upY_self]⟩
-- salts
def liS (s w : Int32) : Int32 := if (8 : Int32) * w < s then s - (8 : Int32) * w else 0
def alQ (fw fc fm : Pg) (s : Int32) (i : Nat) : Bool := decide ((if liS s (fw i) < fc i then (0 : Int32) else 1) = fm i)
def alB (fw fc fm : Pg) (s : Int32) : Nat → Bool
  | 0 => true
  | i + 1 => alB fw fc fm s i && alQ fw fc fm s i
theorem lies_c (s w : Int32) : s - (if (8 : Int32) * w < s then (8 : Int32) * w else s) = liS s w := by
  unfold liS
  split
  · rfl
  · exact Int32.sub_self _
theorem alB_false {fw fc fm : Pg} {s : Int32} {i : Nat} (h : alB fw fc fm s i = false) : ∀ d, alB fw fc fm s (i + d) = false
  | 0 => h
  | d + 1 => by
    show (alB fw fc fm s (i + d) && alQ fw fc fm s (i + d)) = false
    rw [alB_false h d]
    rfl
theorem l_allow {X : HI} {Y : HL} {c : Nat} {fw fc fm : Pg} (hc : c ≤ 6) (h3 : X 8 3 = nI c) (hl : ∀ i, i < c → X 9 i = fw i ∧ X 10 i = fc i ∧ X 11 i = fm i) (s : Int32) : ∀ d f i, i + d = c → d < f → alB fw fc fm s i = true → l_Fin_allow_2 s (fun w2 X3 Y4 => (rI (1 : Int32) X3 Y4)) f (nI i) X Y = rI (b01 (alB fw fc fm s c)) X Y := by
  intro d
  induction d with
  | zero =>
    intro f i h hf ha
    obtain ⟨f, rfl⟩ : ∃ f', f = f' + 1 := ⟨f - 1, by omega⟩
    have e : i = c := by omega
    subst e
    rw [l_Fin_allow_2, h3, if_pos (nI_le (Nat.le_refl _) (by omega)), ha]
    rfl
  | succ d ih =>
    intro f i h hf ha
    obtain ⟨f, rfl⟩ : ∃ f', f = f' + 1 := ⟨f - 1, by omega⟩
    obtain ⟨l1, l2, l3⟩ := hl i (by omega)
    have fin : ∀ s0 : Int32, s0 = (if liS s (fw i) < fc i then (0 : Int32) else 1) → b_Fin_allow_41 (fun a2 A B => l_Fin_allow_2 s (fun w2 X3 Y4 => (rI (1 : Int32) X3 Y4)) f a2 A B) (fun w2 X3 Y4 => (rI (1 : Int32) X3 Y4)) s (nI i) s0 X Y = rI (b01 (alB fw fc fm s c)) X Y := by
      intro s0 hs0
      unfold b_Fin_allow_41
      rw [ixb_nI (by omega) (by decide), gd_t, cl_nI (by omega), l3, hs0]
      have ea : alB fw fc fm s (i + 1) = alQ fw fc fm s i := by
        show (alB fw fc fm s i && alQ fw fc fm s i) = _
        rw [ha]
        rfl
      by_cases hq : (if liS s (fw i) < fc i then (0 : Int32) else 1) = fm i
      · have et : alB fw fc fm s (i + 1) = true := by rw [ea]; simp [alQ, hq]
        rw [if_pos hq, nI_up]
        exact ih f (i + 1) (by omega) (by omega) et
      · have ef : alB fw fc fm s (i + 1) = false := by rw [ea]; simp [alQ, hq]
        have ec := alB_false ef (c - (i + 1))
        rw [show i + 1 + (c - (i + 1)) = c by omega] at ec
        rw [if_neg hq, ec]
        rfl
    rw [l_Fin_allow_2, h3, if_neg (nI_ge (by omega) (by omega)), ixb_nI (by omega) (by decide), gd_t, lt_e, cl_nI (by omega), l1, lies_c, gd_t, l2]
    by_cases hlt : liS s (fw i) < fc i
    · rw [if_pos hlt]
      exact fin 0 (by rw [if_pos hlt])
    · rw [if_neg hlt]
      exact fin 1 (by rw [if_neg hlt])
def setS (X : HI) (c f : Int32) : HI := fun b => if b = 70 then upd (upd (X 70) 25 c) 26 f else X b
theorem setS_o (X : HI) (c f : Int32) {b : Nat} (h : b ≠ 70) : setS X c f b = X b := if_neg h
theorem setS_25 (X : HI) (c f : Int32) : setS X c f 70 25 = c := by unfold setS; rw [if_pos rfl, upd_n _ _ (by decide), upd_s]
theorem setS_26 (X : HI) (c f : Int32) : setS X c f 70 26 = f := by unfold setS; rw [if_pos rfl, upd_s]
theorem setS_k (X : HI) (c f : Int32) {k : Nat} (h1 : k ≠ 25) (h2 : k ≠ 26) : setS X c f 70 k = X 70 k := by unfold setS; rw [if_pos rfl, upd_n _ _ h2, upd_n _ _ h1]
theorem up_S26 (X : HI) (c f f' : Int32) : up (setS X c f) 70 26 f' = setS X c f' := by
  funext b
  by_cases h : b = 70
  · subst h
    rw [up_self]
    unfold setS
    rw [if_pos rfl, if_pos rfl]
    funext j
    by_cases hj : j = 26
    · subst hj; rw [upd_s, upd_s]
    · rw [upd_n _ _ hj, upd_n _ _ hj, upd_n _ _ hj]
  · rw [up_ne _ _ _ h, setS_o _ _ _ h, setS_o _ _ _ h]
theorem up_S25 (X : HI) (c f c' : Int32) : up (setS X c f) 70 25 c' = setS X c' f := by
  funext b
  by_cases h : b = 70
  · subst h
    rw [up_self]
    unfold setS
    rw [if_pos rfl, if_pos rfl]
    funext j
    by_cases hj : j = 26
    · subst hj; rw [upd_n _ _ (by decide), upd_s, upd_s]
    · by_cases hj2 : j = 25
      · subst hj2; rw [upd_s, upd_n _ _ (by decide), upd_s]
      · rw [upd_n _ _ hj2, upd_n _ _ hj, upd_n _ _ hj2, upd_n _ _ hj, upd_n _ _ hj2]
  · rw [up_ne _ _ _ h, setS_o _ _ _ h, setS_o _ _ _ h]
theorem smX_S (X : HI) (c f : Int32) : smX X (setS X c f) := ⟨fun b _ h => setS_o X c f h, setS_k _ _ _ (by decide) (by decide), setS_k _ _ _ (by decide) (by decide), setS_k _ _ _ (by decide) (by decide), setS_k _ _ _ (by decide) (by decide), setS_k _ _ _ (by decide) (by decide)⟩
theorem ml_salt2 {X : HI} {Y : HL} {c : Nat} {fw fc fm : Pg} (hc : c ≤ 6) (h18 : X 70 18 = nI c) (hl : ∀ i, i < c → X 81 i = fw i ∧ X 82 i = fc i ∧ X 83 i = fm i ∧ (fm i = 0 ∨ fm i = 1)) (x1 s : Int32) (kx : Int32 → Int32 → HI → HL → Option Out) : ∀ d f i, i + d = c → d < f → l_Mod_salts_42 x1 s kx f (b01 (alB fw fc fm s i)) (nI i) X Y = kx (b01 (alB fw fc fm s c)) (nI c) X Y := by
  intro d
  induction d with
  | zero =>
    intro f i h hf
    obtain ⟨f, rfl⟩ : ∃ f', f = f' + 1 := ⟨f - 1, by omega⟩
    have e : i = c := by omega
    subst e
    rw [l_Mod_salts_42, h18, if_pos (nI_le (Nat.le_refl _) (by omega))]
  | succ d ih =>
    intro f i h hf
    obtain ⟨f, rfl⟩ : ∃ f', f = f' + 1 := ⟨f - 1, by omega⟩
    obtain ⟨l1, l2, l3, l4⟩ := hl i (by omega)
    have e1 := ih f (i + 1) (by omega) (by omega)
    have key : ∀ s0 : Int32, s0 = liS s (fw i) → b_Mod_salts_81 (fun a3 a4 A B => l_Mod_salts_42 x1 s kx f a3 a4 A B) kx x1 s (b01 (alB fw fc fm s i)) (nI i) s0 X Y = kx (b01 (alB fw fc fm s c)) (nI c) X Y := by
      intro s0 hs0
      unfold b_Mod_salts_81 b_Mod_salts_104 b_Mod_salts_120 b_Mod_salts_127 b_Mod_salts_128
      rw [ixb_nI (by omega) (by decide), gd_t, gd_t, gd_t, cl_nI (by omega), l2, l3, hs0, nI_up]
      rw [show alB fw fc fm s (i + 1) = (alB fw fc fm s i && alQ fw fc fm s i) from rfl] at e1
      cases ha : alB fw fc fm s i with
      | false =>
        rw [ha] at e1
        rw [if_pos (show b01 false = 0 from rfl)]
        exact e1
      | true =>
        rw [ha, Bool.true_and] at e1
        rw [if_neg (show ¬ b01 true = 0 by decide)]
        unfold alQ at e1
        rcases l4 with l4 | l4
        · rw [l4] at e1 ⊢
          rw [if_neg (show ¬ (0 : Int32) = 1 by decide)]
          by_cases hlt : liS s (fw i) < fc i
          · rw [if_pos hlt] at e1 ⊢
            rw [if_pos z00]
            exact e1
          · rw [if_neg hlt] at e1 ⊢
            rw [if_neg (show ¬ (1 : Int32) = 0 by decide)]
            exact e1
        · rw [l4] at e1 ⊢
          rw [if_pos (show (1 : Int32) = 1 from rfl)]
          by_cases hlt : liS s (fw i) < fc i
          · rw [if_pos hlt] at e1 ⊢
            rw [if_neg (show ¬ (0 : Int32) = 1 by decide)]
            exact e1
          · rw [if_neg hlt] at e1 ⊢
            rw [if_pos (show (1 : Int32) = 1 from rfl)]
            exact e1
    rw [l_Mod_salts_42, h18, if_neg (nI_ge (by omega) (by omega)), ixb_nI (by omega) (by decide), gd_t, gd_t, cl_nI (by omega), l1]
    by_cases hle : s ≤ (8 : Int32) * fw i
    · rw [if_pos hle]
      exact key 0 (by unfold liS; rw [if_neg (by rw [i_lt]; rw [i_le] at hle; omega)])
    · rw [if_neg hle]
      exact key _ (by unfold liS; rw [if_pos (by rw [i_lt]; rw [i_le] at hle; omega)])
def saR (fw fc fm : Pg) (c : Nat) : Nat → Nat × Int32
  | 0 => (0, -9)
  | s + 1 => if alB fw fc fm (nI s) c then ((saR fw fc fm c s).1 + 1, if (saR fw fc fm c s).1 = 0 then nI s else (saR fw fc fm c s).2) else saR fw fc fm c s
theorem saR_9 (fw fc fm : Pg) (c : Nat) : ∀ s, s ≤ 100 → (saR fw fc fm c s).1 ≤ s ∧ ((saR fw fc fm c s).2 = -9 ↔ (saR fw fc fm c s).1 = 0)
  | 0, _ => ⟨by simp [saR], by simp [saR]⟩
  | s + 1, hs => by
    obtain ⟨h1, h2⟩ := saR_9 fw fc fm c s (by omega)
    rw [saR]
    split
    · refine ⟨by show (saR fw fc fm c s).1 + 1 ≤ s + 1; omega, ?_⟩
      show (if (saR fw fc fm c s).1 = 0 then nI s else (saR fw fc fm c s).2) = -9 ↔ (saR fw fc fm c s).1 + 1 = 0
      constructor
      · intro h
        split at h
        · exfalso
          have e := congrArg Int32.toInt h
          rw [nI_toInt (by omega), show (-9 : Int32).toInt = -9 from by decide] at e
          omega
        · next hz => exact absurd (h2.mp h) hz
      · intro h
        omega
    · exact ⟨by omega, h2⟩
theorem l_salts {X : HI} {Y : HL} {c : Nat} {fw fc fm : Pg} (hc : c ≤ 6) (h3 : X 8 3 = nI c) (hl : ∀ i, i < c → X 9 i = fw i ∧ X 10 i = fc i ∧ X 11 i = fm i) (x : Int32) (kx : Int32 → Int32 → Int32 → HI → HL → Option Out) : ∀ d f i, i + d = 100 → d < f → l_Bri_salts_20 x kx f (nI (saR fw fc fm c i).1) (saR fw fc fm c i).2 (nI i) X Y = kx (nI (saR fw fc fm c 100).1) (saR fw fc fm c 100).2 (nI 100) X Y := by
  intro d
  induction d with
  | zero =>
    intro f i h hf
    obtain ⟨f, rfl⟩ : ∃ f', f = f' + 1 := ⟨f - 1, by omega⟩
    have e : i = 100 := by omega
    subst e
    rw [l_Bri_salts_20, if_pos (show (100 : Int32) ≤ nI 100 by decide)]
  | succ d ih =>
    intro f i h hf
    obtain ⟨f, rfl⟩ : ∃ f', f = f' + 1 := ⟨f - 1, by omega⟩
    have e1 := ih f (i + 1) (by omega) (by omega)
    rw [show saR fw fc fm c (i + 1) = if alB fw fc fm (nI i) c then ((saR fw fc fm c i).1 + 1, if (saR fw fc fm c i).1 = 0 then nI i else (saR fw fc fm c i).2) else saR fw fc fm c i from rfl] at e1
    obtain ⟨q1, q2⟩ := saR_9 fw fc fm c i (by omega)
    have ea : f_Fin_allow (nI i) X Y = rI (b01 (alB fw fc fm (nI i) c)) X Y := by
      unfold f_Fin_allow
      exact l_allow hc h3 hl (nI i) c 256 0 (by omega) (by omega) rfl
    rw [l_Bri_salts_20, if_neg (show ¬ (100 : Int32) ≤ nI i from nI_ge (b := 100) (by omega) (by omega)), ea, bi_rI]
    unfold b_Bri_salts_51
    rw [nI_up, nI_up]
    cases ha : alB fw fc fm (nI i) c with
    | false =>
      rw [ha, if_neg (by decide)] at e1
      rw [if_pos (show b01 false = 0 from rfl)]
      exact e1
    | true =>
      rw [ha, if_pos rfl] at e1
      rw [if_neg (show ¬ b01 true = 0 by decide)]
      by_cases h9 : (saR fw fc fm c i).2 = -9
      · rw [if_pos (q2.mp h9)] at e1
        rw [if_pos h9]
        exact e1
      · rw [if_neg (fun z => h9 (q2.mpr z))] at e1
        rw [if_neg h9]
        exact e1
theorem ml_salts {X : HI} {Y : HL} {c : Nat} {fw fc fm : Pg} (hc : c ≤ 6) (h18 : X 70 18 = nI c) (hl : ∀ i, i < c → X 81 i = fw i ∧ X 82 i = fc i ∧ X 83 i = fm i ∧ (fm i = 0 ∨ fm i = 1)) (x : Int32) (kx : Int32 → HI → HL → Option Out) : ∀ d f i, i + d = 100 → d < f → l_Mod_salts_31 x kx f (nI i) (setS X (nI (saR fw fc fm c i).1) (saR fw fc fm c i).2) Y = kx (nI 100) (setS X (nI (saR fw fc fm c 100).1) (saR fw fc fm c 100).2) Y := by
  intro d
  induction d with
  | zero =>
    intro f i h hf
    obtain ⟨f, rfl⟩ : ∃ f', f = f' + 1 := ⟨f - 1, by omega⟩
    have e : i = 100 := by omega
    subst e
    rw [l_Mod_salts_31, if_pos (show (100 : Int32) ≤ nI 100 by decide)]
  | succ d ih =>
    intro f i h hf
    obtain ⟨f, rfl⟩ : ∃ f', f = f' + 1 := ⟨f - 1, by omega⟩
    have e1 := ih f (i + 1) (by omega) (by omega)
    rw [show saR fw fc fm c (i + 1) = if alB fw fc fm (nI i) c then ((saR fw fc fm c i).1 + 1, if (saR fw fc fm c i).1 = 0 then nI i else (saR fw fc fm c i).2) else saR fw fc fm c i from rfl] at e1
    obtain ⟨q1, q2⟩ := saR_9 fw fc fm c i (by omega)
    generalize saR fw fc fm c i = st at e1 q1 q2
    obtain ⟨cn, fi⟩ := st
    dsimp only at e1 q1 q2 ⊢
    have hlS : ∀ j, j < c → setS X (nI cn) fi 81 j = fw j ∧ setS X (nI cn) fi 82 j = fc j ∧ setS X (nI cn) fi 83 j = fm j ∧ (fm j = 0 ∨ fm j = 1) := by
      intro j hj
      rw [setS_o _ _ _ (by decide), setS_o _ _ _ (by decide), setS_o _ _ _ (by decide)]
      exact hl j hj
    have e2 := ml_salt2 (X := setS X (nI cn) fi) (Y := Y) hc (by rw [setS_k _ _ _ (by decide) (by decide)]; exact h18) hlS x (nI i) (fun w7 w8 X9 Y10 =>
      (if w7 = 0 then
      (b_Mod_salts_151 (fun a2 A B => l_Mod_salts_31 x kx f a2 A B) kx x (nI i) w7 X9 Y10)
      else
      (if (X9 70 25) = 0 then
      (b_Mod_salts_155 (fun a2 A B => l_Mod_salts_31 x kx f a2 A B) kx x (nI i) w7 (nI i) X9 Y10)
      else
      (b_Mod_salts_151 (fun a2 A B => l_Mod_salts_31 x kx f a2 A B) kx x (nI i) w7 X9 Y10)))) c 256 0 (by omega) (by omega)
    rw [show b01 (alB fw fc fm (nI i) 0) = (1 : Int32) from rfl, show nI 0 = (0 : Int32) from rfl] at e2
    rw [l_Mod_salts_31, if_neg (show ¬ (100 : Int32) ≤ nI i from nI_ge (b := 100) (by omega) (by omega)), e2]
    unfold b_Mod_salts_151 b_Mod_salts_155 b_Mod_salts_172
    rw [setS_25, setS_26]
    cases ha : alB fw fc fm (nI i) c with
    | false =>
      rw [ha, if_neg (by decide)] at e1
      rw [if_pos (show b01 false = 0 from rfl), lh_e, up_S26, if_pos (show b01 false = 0 from rfl), setS_25, lh_e, Int32.add_zero, up_S25, nI_up]
      exact e1
    | true =>
      rw [ha, if_pos rfl] at e1
      rw [if_neg (show ¬ b01 true = 0 by decide)]
      by_cases hc0 : cn = 0
      · rw [if_pos hc0] at e1
        rw [if_pos (show nI cn = 0 by rw [hc0]; rfl), lh_e, up_S26, if_neg (show ¬ b01 true = 0 by decide), setS_25, lh_e, up_S25, nI_up, nI_up]
        exact e1
      · rw [if_neg hc0] at e1
        rw [if_neg (show ¬ nI cn = 0 from nI_ne0 (by omega) (by omega)), lh_e, up_S26, if_neg (show ¬ b01 true = 0 by decide), setS_25, lh_e, up_S25, nI_up, nI_up]
        exact e1
theorem ok_salts (x : Int32) : Ok (fun X Y => f_Bri_salts x X Y) (fun X Y => f_Mod_salts x X Y) := by
  apply Ok.ask
  intro T n m X Y hT hR hg hp
  obtain ⟨n2, m2, hg2, ht2, hp2, hh2, hk2, hf2, hy2⟩ := hR
  obtain ⟨c, hc, h3, h18, hl⟩ := hf2
  cases hf : ft x 0 1 with
  | false =>
    refine ⟨-2, X, _, ?_, smX.rf X, ?_, thr X⟩
    · show f_Bri_salts x X Y = _
      unfold f_Bri_salts
      rw [s_isFTn hf, bi_rI, if_pos z00]
    · show f_Mod_salts x X Y = _
      unfold f_Mod_salts
      rw [lh_e, m_inN2 (a := 0) (b := 1) (by decide) (by decide) hf, bi_rI, if_pos z00]
  | true =>
    have e1 := l_salts (X := X) (Y := Y) (fw := X 81) (fc := X 82) (fm := X 83) hc h3 (fun i hi => ⟨(hl i hi).1, (hl i hi).2.1, (hl i hi).2.2.1⟩) x (fun w7 w8 w9 X10 Y11 =>
      (if x = 0 then
      (rI w7 X10 Y11)
      else
      (rI w8 X10 Y11))) 100 256 0 (by omega) (by omega)
    have t18 : up X 70 0 0 70 18 = nI c := by rw [up_an _ _ _ _ (by decide)]; exact h18
    have e2 := ml_salts (X := up X 70 0 0) (Y := Y) (fw := X 81) (fc := X 82) (fm := X 83) hc t18 (fun i hi => by
      rw [up_ne _ _ _ (by decide), up_ne _ _ _ (by decide), up_ne _ _ _ (by decide)]
      exact ⟨rfl, rfl, rfl, (hl i hi).2.2.2.2⟩) x (fun w13 X14 Y15 =>
      (if x = 0 then
      (rI (X14 70 25) X14 Y15)
      else
      (rI (X14 70 26) X14 Y15))) 100 256 0 (by omega) (by omega)
    rw [setS_25, setS_26] at e2
    have es0 : setS (up X 70 0 0) (nI (saR (X 81) (X 82) (X 83) c 0).1) (saR (X 81) (X 82) (X 83) c 0).2 = up (up (up X 70 0 0) 70 25 0) 70 26 (-9) := by
      funext b
      by_cases hb : b = 70
      · subst hb
        rw [up_self, up_self]
        unfold setS
        rw [if_pos rfl]
        rfl
      · rw [setS_o _ _ _ hb, up_ne _ _ _ hb, up_ne _ _ _ hb, up_ne _ _ _ hb, up_ne _ _ _ hb]
    rw [es0] at e2
    refine ⟨if x = 0 then nI (saR (X 81) (X 82) (X 83) c 100).1 else (saR (X 81) (X 82) (X 83) c 100).2, X, _, ?_, smX.rf X, ?_, (thr X).tr (smX_S _ (nI (saR (X 81) (X 82) (X 83) c 100).1) (saR (X 81) (X 82) (X 83) c 100).2)⟩
    · show f_Bri_salts x X Y = _
      unfold f_Bri_salts
      rw [s_isFTy hf, bi_rI, if_neg n10]
      refine Eq.trans e1 ?_
      split <;> rfl
    · show f_Mod_salts x X Y = _
      unfold f_Mod_salts
      rw [lh_e, m_inY2 (a := 0) (b := 1) (by decide) (by decide) hf, bi_rI, if_neg n10, lh_e, lh_e]
      refine Eq.trans e2 ?_
      split <;> rfl
