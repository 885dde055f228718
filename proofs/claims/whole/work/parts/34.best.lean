/-! best -/
theorem smX.sym {X X1 : HI} (h : smX X X1) : smX X1 X := ⟨fun b h1 h2 => (h.1 b h1 h2).symm, h.2.1.symm, h.2.2.1.symm, h.2.2.2.1.symm, h.2.2.2.2.1.symm, h.2.2.2.2.2.symm⟩
def beS (n m : Nat) (kd sk g : Pg) (dd : Nat) (a : Int32 × Int32) (k by' : Nat) : Int32 × Int32 :=
  if g k < nI by' then a else if rmP kd g (k + 1) < nI by' then a else if crA (daysP n m kd sk (leP g k (nI by')) dd) n ≤ a.1 then a else (crA (daysP n m kd sk (leP g k (nI by')) dd) n, (10 : Int32) * nI k + nI by')
def beI (n m : Nat) (kd sk g : Pg) (dd k : Nat) (a : Int32 × Int32) : Nat → Int32 × Int32
  | 0 => a
  | j + 1 => beS n m kd sk g dd (beI n m kd sk g dd k a j) k (j + 1)
def beO (n m : Nat) (kd sk g : Pg) (dd : Nat) (a : Int32 × Int32) : Nat → Int32 × Int32
  | 0 => a
  | k + 1 => beI n m kd sk g dd k (beO n m kd sk g dd a k) 9
theorem beI_w (n m : Nat) (kd sk g : Pg) (dd k : Nat) (a : Int32 × Int32) {w : Nat} (hw : g k = nI w) : ∀ d, w + d ≤ 9 → beI n m kd sk g dd k a (w + d) = beI n m kd sk g dd k a w
  | 0, _ => rfl
  | d + 1, h => by
    show beS n m kd sk g dd (beI n m kd sk g dd k a (w + d)) k (w + d + 1) = _
    rw [beI_w n m kd sk g dd k a hw d (by omega)]
    unfold beS
    rw [if_pos (by rw [hw, i_lt, nI_toInt (by omega), nI_toInt (by omega)]; omega)]
theorem l_best1 {X0 : HI} {Y : HL} {n m dd t k w : Nat} {kd sk g : Pg} (hE : EC n m kd sk X0) (hp : ∀ k, k < 15 → pgC X0 16 k = g k) (hok : okG g) (h14 : g 14 = nI t) (ht : t + dd < 2 ^ 31) (hdd : dd < 256) (hk : k + 1 < n) (hw : g k = nI w) (hw9 : w ≤ 9) (x2 : Int32) (a : Int32 × Int32) (kx : Int32 → Int32 → Int32 → HI → HL → Option Out) : ∀ d f j (X : HI), j + d = w → d < f → smX X0 X → ∃ X', smX X0 X' ∧ l_Bri_best_52 (nI dd) x2 (nI k) kx f (beI n m kd sk g dd k a j).1 (beI n m kd sk g dd k a j).2 (nI (j + 1)) X Y = kx (beI n m kd sk g dd k a w).1 (beI n m kd sk g dd k a w).2 (nI (w + 1)) X' Y := by
  have n6 := hE.2.2.1
  intro d
  induction d with
  | zero =>
    intro f j X h hf hX
    obtain ⟨f, rfl⟩ : ∃ f', f = f' + 1 := ⟨f - 1, by omega⟩
    have e : j = w := by omega
    subst e
    have hw17 : X 17 k = nI j := by rw [hX.1 17 (by decide) (by decide), ← hw, ← hp k (by omega)]; unfold pgC; rw [if_pos (by omega)]
    refine ⟨X, hX, ?_⟩
    rw [l_Bri_best_52, ixb_nI (by omega) (by decide), gd_t, cl_nI (by omega), hw17, if_pos (by rw [i_lt, nI_toInt (by omega), nI_toInt (by omega)]; omega)]
  | succ d ih =>
    intro f j X h hf hX
    obtain ⟨f, rfl⟩ : ∃ f', f = f' + 1 := ⟨f - 1, by omega⟩
    have hw17 : X 17 k = nI w := by rw [hX.1 17 (by decide) (by decide), ← hw, ← hp k (by omega)]; unfold pgC; rw [if_pos (by omega)]
    have hp' : ∀ k, k < 15 → pgC X 16 k = g k := by rw [hX.p16]; exact hp
    have hE' := hE.same hX
    have hgk : ¬ g k < nI (j + 1) := by rw [hw, i_lt, nI_toInt (by omega), nI_toInt (by omega)]; omega
    have hft : ft (nI (j + 1)) 1 9 = true := by
      unfold ft
      rw [show decide (nI (j + 1) < (1 : Int32)) = false from by rw [decide_eq_false_iff_not, i_lt, nI_toInt (by omega), i1]; omega, show decide ((9 : Int32) < nI (j + 1)) = false from by rw [decide_eq_false_iff_not, i_lt, nI_toInt (by omega), show (9 : Int32).toInt = 9 from by decide]; omega]
      rfl
    have es : beI n m kd sk g dd k a (j + 1) = beS n m kd sk g dd (beI n m kd sk g dd k a j) k (j + 1) := rfl
    unfold beS at es
    rw [if_neg hgk] at es
    rw [l_Bri_best_52, ixb_nI (by omega) (by decide), gd_t, cl_nI (by omega), hw17, if_neg (by rw [i_lt, nI_toInt (by omega), nI_toInt (by omega)]; omega), s_fromNow hp', br_rR, s_letOn isP_19 hE' hk, bi_rI]
    have hlet : letR kd g k (nI (j + 1)) = if rmP kd g (k + 1) < nI (j + 1) then (-4, g) else (goP g k (nI (j + 1)), leP g k (nI (j + 1))) := by
      unfold letR
      rw [hft, if_neg (show ¬ true = false by decide), if_neg hgk]
    unfold b_Bri_best_115
    rw [hlet, nI_up]
    by_cases hr : rmP kd g (k + 1) < nI (j + 1)
    · rw [if_pos hr] at es
      rw [if_pos hr, if_neg (show ¬ (0 : Int32) ≤ ((-4 : Int32), g).1 from (by decide : ¬ (0 : Int32) ≤ -4))]
      obtain ⟨X', q1, q2⟩ := ih f (j + 1) (setC X 19 g) (by omega) (by omega) (hX.tr (smX_C X g))
      rw [es] at q2
      exact ⟨X', q1, q2⟩
    · rw [if_neg hr] at es
      have hgo := (goP_b hok (k := k) (by omega) (x := nI (j + 1)) (by rw [nI_toInt (by omega)]; omega) (by rw [hw, nI_toInt (by omega), nI_toInt (by omega)]; omega)).1
      have h14' : leP g k (nI (j + 1)) 14 = nI t := by
        unfold leP
        rw [flP_hi _ _ _ _ (by omega) (by omega), drP_hi _ _ _ (by omega) (by omega)]
        exact h14
      rw [if_neg hr, if_pos (show (0 : Int32) ≤ (goP g k (nI (j + 1)), leP g k (nI (j + 1))).1 by rw [i_le, i0]; exact hgo), s_crustBehind isP_19 hE' (t := t) ht hdd h14', bi_rI]
      obtain ⟨X', q1, q2⟩ := ih f (j + 1) (setC X 19 (daysP n m kd sk (leP g k (nI (j + 1))) dd)) (by omega) (by omega) (hX.tr (smX_C X _))
      by_cases hc : crA (daysP n m kd sk (leP g k (nI (j + 1))) dd) n ≤ (beI n m kd sk g dd k a j).1
      · rw [if_pos hc] at es
        rw [es] at q2
        rw [if_pos hc]
        exact ⟨X', q1, q2⟩
      · rw [if_neg hc] at es
        rw [es] at q2
        rw [if_neg hc, lt_e]
        exact ⟨X', q1, q2⟩
theorem ok9 {g : Pg} (h : okG g) {k : Nat} (hk : k < 6) : ∃ w, w ≤ 9 ∧ g k = nI w := by
  obtain ⟨h1, h2⟩ := (h k hk).1
  obtain ⟨w, hw, e⟩ := inN_of (x := g k) (n := 10) ⟨h1, by omega⟩
  exact ⟨w, by omega, e⟩
theorem l_best2 {X0 : HI} {Y : HL} {n m dd t : Nat} {kd sk g : Pg} (hE : EC n m kd sk X0) (hp : ∀ k, k < 15 → pgC X0 16 k = g k) (hok : okG g) (h14 : g 14 = nI t) (ht : t + dd < 2 ^ 31) (hdd : dd < 256) (x2 : Int32) (a : Int32 × Int32) (kx : Int32 → Int32 → Int32 → HI → HL → Option Out) : ∀ d f i (X : HI), i + d = n - 1 → d < f → smX X0 X → ∃ X', smX X0 X' ∧ l_Bri_best_37 (nI dd) x2 kx f (beO n m kd sk g dd a i).1 (beO n m kd sk g dd a i).2 (nI i) X Y = kx (beO n m kd sk g dd a (n - 1)).1 (beO n m kd sk g dd a (n - 1)).2 (nI (n - 1)) X' Y := by
  have n6 := hE.2.2.1
  intro d
  induction d with
  | zero =>
    intro f i X h hf hX
    obtain ⟨f, rfl⟩ : ∃ f', f = f' + 1 := ⟨f - 1, by omega⟩
    have e : i = n - 1 := by omega
    subst e
    refine ⟨X, hX, ?_⟩
    rw [l_Bri_best_37, s_gateCount (hE.same hX), bi_rI, if_pos (nI_le (Nat.le_refl _) (by omega))]
  | succ d ih =>
    intro f i X h hf hX
    obtain ⟨f, rfl⟩ : ∃ f', f = f' + 1 := ⟨f - 1, by omega⟩
    obtain ⟨w, hw9, hw⟩ := ok9 hok (k := i) (by omega)
    obtain ⟨X1, q1, q2⟩ := l_best1 (Y := Y) hE hp hok h14 ht hdd (k := i) (by omega) hw hw9 x2 (beO n m kd sk g dd a i) (fun w24 w25 w26 X27 Y28 =>
    (l_Bri_best_37 (nI dd) x2 kx f w24 w25 (nI i + (1 : Int32)) X27 Y28)) w 256 0 X (by omega) (by omega) hX
    obtain ⟨X2, q3, q4⟩ := ih f (i + 1) X1 (by omega) (by omega) q1
    refine ⟨X2, q3, ?_⟩
    rw [l_Bri_best_37, s_gateCount (hE.same hX), bi_rI, if_neg (nI_ge (by omega) (by omega))]
    have e9 := beI_w n m kd sk g dd i (beO n m kd sk g dd a i) hw (9 - w) (by omega)
    rw [show w + (9 - w) = 9 by omega] at e9
    rw [nI_up, ← e9] at q2
    rw [nI_up]
    exact q2.trans q4
theorem ml_best1 {X0 : HI} {Y : HL} {n m dd t k : Nat} {kd sk g : Pg} (hE : EM n m kd sk X0) (hs : okS4 sk) (hp : X0 76 = g) (hok : okG g) (h14 : g 14 = nI t) (ht : t + dd < 2 ^ 31) (hdd : dd < 256) (hk : k + 1 < n) (a : Int32 × Int32) (kx : Int32 → HI → HL → Option Out) : ∀ d f j (X : HI), j + d = 9 → d < f → smX X0 X → X 70 23 = (beI n m kd sk g dd k a j).1 → X 70 24 = (beI n m kd sk g dd k a j).2 → ∃ X', smX X0 X' ∧ X' 70 23 = (beI n m kd sk g dd k a 9).1 ∧ X' 70 24 = (beI n m kd sk g dd k a 9).2 ∧ l_Mod_findBest_44 (nI dd) (nI k) kx f (nI (j + 1)) X Y = kx (nI 10) X' Y := by
  have n6 := hE.2.2.1
  intro d
  induction d with
  | zero =>
    intro f j X h hf hX h23 h24
    obtain ⟨f, rfl⟩ : ∃ f', f = f' + 1 := ⟨f - 1, by omega⟩
    have e : j = 9 := by omega
    subst e
    refine ⟨X, hX, h23, h24, ?_⟩
    rw [l_Mod_findBest_44, if_pos (show (9 : Int32) < nI (9 + 1) by decide)]
  | succ d ih =>
    intro f j X h hf hX h23 h24
    obtain ⟨f, rfl⟩ : ∃ f', f = f' + 1 := ⟨f - 1, by omega⟩
    have hM := hE.same hX
    have h76 : X 76 = g := hX.p76.trans hp
    have es : beI n m kd sk g dd k a (j + 1) = beS n m kd sk g dd (beI n m kd sk g dd k a j) k (j + 1) := rfl
    unfold beS at es
    rw [l_Mod_findBest_44, if_neg (by rw [i_lt, nI_toInt (by omega), show (9 : Int32).toInt = 9 from by decide]; omega), ixb_nI (by omega) (by decide), gd_t, cl_nI (by omega), h76]
    unfold b_Mod_findBest_156 b_Mod_findBest_131 b_Mod_findBest_153 b_Mod_findBest_156
    rw [nI_up, nI_up]
    by_cases hgk : g k < nI (j + 1)
    · rw [if_pos hgk] at es ⊢
      exact ih f (j + 1) X (by omega) (by omega) hX (by rw [es]; exact h23) (by rw [es]; exact h24)
    · rw [if_neg hgk] at es ⊢
      have er := m_room (X := X) (Y := Y) (g := g) (Or.inl rfl) hM (k := k + 1) (by omega)
      rw [setM_id (fun q _ => by rw [h76])] at er
      rw [er, bi_rI]
      by_cases hr : rmP kd g (k + 1) < nI (j + 1)
      · rw [if_pos hr] at es ⊢
        exact ih f (j + 1) X (by omega) (by omega) hX (by rw [es]; exact h23) (by rw [es]; exact h24)
      · rw [if_neg hr] at es ⊢
        have hnz : ¬ g k = 0 := by
          intro hz
          apply hgk
          rw [hz, i_lt, i0, nI_toInt (by omega)]
          omega
        have hgk' : (nI (j + 1)).toInt ≤ (g k).toInt := by rw [i_lt] at hgk; omega
        have hr' : (nI (j + 1)).toInt ≤ (rmP kd g (k + 1)).toInt := by rw [i_lt] at hr; omega
        have h14' : leP g k (nI (j + 1)) 14 = nI t := by
          unfold leP
          rw [flP_hi _ _ _ _ (by omega) (by omega), drP_hi _ _ _ (by omega) (by omega)]
          exact h14
        have hok' : okG (leP g k (nI (j + 1))) := okG_le (kd := kd) hok (k := k) (by omega) (by rw [nI_toInt (by omega)]; omega) hgk' hr'
        rw [m_begin, bv_rV, h76, m_goLet (by omega) hnz, bi_rI, m_goDays (Or.inr rfl) hM hs hok' (t := t) ht hdd h14', bv_rV, m_crustOfAll (Or.inr rfl) hM, bi_rI]
        have s1 := hX.tr (smX_M X (daysP n m kd sk (leP g k (nI (j + 1))) dd))
        have q23 : setM X 77 (daysP n m kd sk (leP g k (nI (j + 1))) dd) 70 23 = (beI n m kd sk g dd k a j).1 := by rw [setM_o (by decide)]; exact h23
        have q24 : setM X 77 (daysP n m kd sk (leP g k (nI (j + 1))) dd) 70 24 = (beI n m kd sk g dd k a j).2 := by rw [setM_o (by decide)]; exact h24
        generalize setM X 77 (daysP n m kd sk (leP g k (nI (j + 1))) dd) = X1 at s1 q23 q24 ⊢
        generalize crA (daysP n m kd sk (leP g k (nI (j + 1))) dd) n = v at es ⊢
        have fin : ∀ s0 v0 : Int32, beI n m kd sk g dd k a (j + 1) = (v0, s0) → ∃ X', smX X0 X' ∧ X' 70 23 = (beI n m kd sk g dd k a 9).1 ∧ X' 70 24 = (beI n m kd sk g dd k a 9).2 ∧ l_Mod_findBest_44 (nI dd) (nI k) kx f (nI (j + 1 + 1)) (up (up X1 70 24 s0) 70 23 v0) Y = kx (nI 10) X' Y := by
          intro s0 v0 h0
          exact ih f (j + 1) _ (by omega) (by omega) ((s1.tr (smX_70 X1 24 s0 (by decide))).tr (smX_70 _ 23 v0 (by decide))) (by rw [up_at, h0]) (by rw [up_an _ _ _ _ (by decide), up_at, h0])
        rw [q23, q24]
        by_cases hc : v ≤ (beI n m kd sk g dd k a j).1
        · rw [if_pos hc] at es
          rw [if_pos hc, lh_e, up_an _ _ _ _ (show (23 : Nat) ≠ 24 by decide), q23, if_pos hc, lh_e]
          exact fin _ _ es
        · rw [if_neg hc] at es
          rw [if_neg hc, lh_e, up_an _ _ _ _ (show (23 : Nat) ≠ 24 by decide), q23, if_neg hc, lh_e]
          exact fin _ _ es
theorem ml_best2 {X0 : HI} {Y : HL} {n m dd t : Nat} {kd sk g : Pg} (hE : EM n m kd sk X0) (hs : okS4 sk) (hp : X0 76 = g) (hok : okG g) (h14 : g 14 = nI t) (ht : t + dd < 2 ^ 31) (hdd : dd < 256) (a : Int32 × Int32) (kx : Int32 → HI → HL → Option Out) : ∀ d f i (X : HI), i + d = n - 1 → d < f → smX X0 X → X 70 23 = (beO n m kd sk g dd a i).1 → X 70 24 = (beO n m kd sk g dd a i).2 → ∃ X', smX X0 X' ∧ X' 70 23 = (beO n m kd sk g dd a (n - 1)).1 ∧ X' 70 24 = (beO n m kd sk g dd a (n - 1)).2 ∧ l_Mod_findBest_32 (nI dd) kx f (nI i) X Y = kx (nI (n - 1)) X' Y := by
  have n6 := hE.2.2.1
  intro d
  induction d with
  | zero =>
    intro f i X h hf hX h23 h24
    obtain ⟨f, rfl⟩ : ∃ f', f = f' + 1 := ⟨f - 1, by omega⟩
    have e : i = n - 1 := by omega
    subst e
    refine ⟨X, hX, h23, h24, ?_⟩
    rw [l_Mod_findBest_32, (hE.same hX).1, if_pos (by rw [i_le, nI_m1 (by omega), nI_toInt (by omega)]; omega)]
  | succ d ih =>
    intro f i X h hf hX h23 h24
    obtain ⟨f, rfl⟩ : ∃ f', f = f' + 1 := ⟨f - 1, by omega⟩
    obtain ⟨X1, q1, q2, q3, q4⟩ := ml_best1 (Y := Y) hE hs hp hok h14 ht hdd (k := i) (by omega) (beO n m kd sk g dd a i) (fun w25 X26 Y27 =>
    (l_Mod_findBest_32 (nI dd) kx f (nI i + (1 : Int32)) X26 Y27)) 9 256 0 X (by omega) (by omega) hX h23 h24
    obtain ⟨X2, p1, p2, p3, p4⟩ := ih f (i + 1) X1 (by omega) (by omega) q1 q2 q3
    refine ⟨X2, p1, p2, p3, ?_⟩
    rw [l_Mod_findBest_32, (hE.same hX).1, if_neg (by rw [i_le, nI_m1 (by omega), nI_toInt (by omega)]; omega)]
    rw [nI_up] at q4 ⊢
    exact q4.trans p4
theorem ok_best (x z : Int32) : Ok (fun X Y => f_Bri_best x z X Y) (fun X Y => f_Mod_best x z X Y) := by
  apply Ok.ask
  intro T n m X Y hT hR hg hp
  obtain ⟨hE, h4, h6, hs4⟩ := id hg
  have hM := hg.em
  obtain ⟨hpg, hok, hz, t, ht, h14⟩ := hp
  have gen : ∀ r : Int32, f_Bri_best x z X Y = rI r X Y → f_Mod_best x z X Y = rI r (up X 70 0 0) Y → ∃ r X1 X2, f_Bri_best x z X Y = rI r X1 Y ∧ smX X X1 ∧ f_Mod_best x z X1 Y = rI r X2 Y ∧ smX X1 X2 := fun r h1 h2 => ⟨r, X, _, h1, smX.rf X, h2, thr X⟩
  cases hf : ft x 1 9 with
  | false =>
    exact gen (-2) (by unfold f_Bri_best; rw [s_isFTn hf, bi_rI, if_pos z00]) (by unfold f_Mod_best; rw [lh_e, m_inN2 (a := 1) (b := 9) (by decide) (by decide) hf, bi_rI, if_pos z00])
  | true =>
    cases hf2 : ft z 0 1 with
    | false =>
      exact gen (-2) (by unfold f_Bri_best; rw [s_isFTy hf, bi_rI, if_neg n10, s_isFTn hf2, bi_rI, if_pos z00]) (by unfold f_Mod_best; rw [lh_e, m_inY2 (a := 1) (b := 9) (by decide) (by decide) hf, bi_rI, if_neg n10, m_inN2 (a := 0) (b := 1) (by decide) (by decide) hf2, bi_rI, if_pos z00])
    | true =>
      obtain ⟨dd, hd1, hd2, rfl⟩ := ft_nat (a := 1) (b := 9) (by decide) (by decide) hf
      have n6 := hE.2.2.1
      obtain ⟨X1, s1, e1⟩ := l_best2 (X0 := X) (Y := Y) (g := X 76) hE hpg hok h14 (dd := dd) (by omega) (by omega) z (crA (daysP n m (X 72) (X 73) (X 76) dd) n, 0) (fun w29 w30 w31 X32 Y33 =>
    (if z = 0 then
    (rI w29 X32 Y33)
    else
    (rI w30 X32 Y33))) (n - 1) 256 0 (setC X 19 (daysP n m (X 72) (X 73) (X 76) dd)) (by omega) (by omega) (smX_C X _)
      have s2 := s1.tr (thr X1)
      have hM2 := hM.same s2
      have s3 := (s2.tr (smX_M _ (daysP n m (X 72) (X 73) (X 76) dd)))
      have s4 := (s3.tr (smX_70 _ 23 (crA (daysP n m (X 72) (X 73) (X 76) dd) n) (by decide))).tr (smX_70 _ 24 0 (by decide))
      obtain ⟨X2, p1, p2, p3, p4⟩ := ml_best2 (X0 := X) (Y := Y) (g := X 76) hM hs4 rfl hok h14 (dd := dd) (by omega) (by omega) (crA (daysP n m (X 72) (X 73) (X 76) dd) n, 0) (fun w28 X29 Y30 => (rV X29 Y30)) (n - 1) 256 0 _ (by omega) (by omega) s4 (by rw [up_an _ _ _ _ (by decide), up_at]; rfl) (by rw [up_at]; rfl)
      have b1 : smX X1 X2 := s1.sym.tr p1
      refine ⟨if z = 0 then (beO n m (X 72) (X 73) (X 76) dd (crA (daysP n m (X 72) (X 73) (X 76) dd) n, 0) (n - 1)).1 else (beO n m (X 72) (X 73) (X 76) dd (crA (daysP n m (X 72) (X 73) (X 76) dd) n, 0) (n - 1)).2, X1, X2, ?_, s1, ?_, b1⟩
      · show f_Bri_best (nI dd) z X Y = _
        unfold f_Bri_best
        rw [s_isFTy hf, bi_rI, if_neg n10, s_isFTy hf2, bi_rI, if_neg n10, s_fromNow hpg, br_rR, s_crustBehind isP_19 hE (t := t) (by omega) (by omega) h14, bi_rI]
        refine Eq.trans e1 ?_
        split <;> rfl
      · show f_Mod_best (nI dd) z _ Y = _
        unfold f_Mod_best f_Mod_findBest
        rw [lh_e, m_inY2 (a := 1) (b := 9) (by decide) (by decide) hf, bi_rI, if_neg n10, m_inY2 (a := 0) (b := 1) (by decide) (by decide) hf2, bi_rI, if_neg n10, m_begin, bv_rV, s2.p76, m_goDays (Or.inr rfl) hM2 hs4 hok (t := t) (by omega) (by omega) h14, bv_rV, m_crustOfAll (Or.inr rfl) hM2, bi_rI, lh_e, lh_e]
        rw [show l_Mod_findBest_32 (nI dd) (fun w28 X29 Y30 => (rV X29 Y30)) 256 (0 : Int32) _ Y = _ from p4, bv_rV, p2, p3]
        split <;> rfl
