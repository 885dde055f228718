/-! gates -/
theorem s_fromNow2 {X : HI} {Y : HL} {g g0 : Pg} (hp : ∀ k, k < 15 → pgC X 16 k = g k) : f_Bri_fromNow (setC X 19 g0) Y = rR 19 (setC X 19 g) Y := by
  have s := smX_C X g0
  rw [s_fromNow (g := g) (by rw [s.p16]; exact hp), setC_setC]
theorem m_begin2 {X : HI} {Y : HL} {g0 : Pg} : f_Mod_begin (setM X 77 g0) Y = rV (setM X 77 (X 76)) Y := by
  rw [m_begin, setM_setM, setM_o (by decide)]
def mnA (x : Int32) : Nat → Int32
  | 0 => 0
  | k + 1 => mnA x k + ((x >>> (nI k &&& 31)) &&& 1)
theorem ml_many {X : HI} {Y : HL} (x : Int32) (kx : Int32 → Int32 → HI → HL → Option Out) : ∀ d f i, i + d = 6 → d < f → l_Mod_many_4 x kx f (mnA x i) (nI i) X Y = kx (mnA x 6) (nI 6) X Y := by
  intro d
  induction d with
  | zero =>
    intro f i h hf
    obtain ⟨f, rfl⟩ : ∃ f', f = f' + 1 := ⟨f - 1, by omega⟩
    have e : i = 6 := by omega
    subst e
    rw [l_Mod_many_4, if_pos (show (6 : Int32) ≤ nI 6 by decide)]
  | succ d ih =>
    intro f i h hf
    obtain ⟨f, rfl⟩ : ∃ f', f = f' + 1 := ⟨f - 1, by omega⟩
    rw [l_Mod_many_4, if_neg (show ¬ (6 : Int32) ≤ nI i from nI_ge (b := 6) (by omega) (by omega)), lt_e, nI_up]
    exact ih f (i + 1) (by omega) (by omega)
theorem m_many {X : HI} {Y : HL} (x : Int32) : f_Mod_many x X Y = rI (mnA x 6) X Y := by
  unfold f_Mod_many
  exact ml_many x _ 6 256 0 (by omega) (by omega)
def bcV (x0 : Int32) : Int32 :=
  let v1 := x0 - (((x0.toUInt32 >>> ((1 : Int32).toUInt32 &&& Int32.toUInt32 31)).toInt32) &&& (1431655765 : Int32))
  let v2 := (v1 &&& (858993459 : Int32)) + (((v1.toUInt32 >>> ((2 : Int32).toUInt32 &&& Int32.toUInt32 31)).toInt32) &&& (858993459 : Int32))
  let v3 := (v2 + ((v2.toUInt32 >>> ((4 : Int32).toUInt32 &&& Int32.toUInt32 31)).toInt32)) &&& (252645135 : Int32)
  let v4 := v3 + ((v3.toUInt32 >>> ((8 : Int32).toUInt32 &&& Int32.toUInt32 31)).toInt32)
  let v5 := v4 + ((v4.toUInt32 >>> ((16 : Int32).toUInt32 &&& Int32.toUInt32 31)).toInt32)
  v5 &&& (63 : Int32)
theorem bcV_e : ∀ s, s < 64 → bcV (nI s) = mnA (nI s) 6 := by decide +kernel
theorem s_bitCount {X : HI} {Y : HL} {s : Nat} (hs : s < 64) : f_Int_bitCount (nI s) X Y = rI (mnA (nI s) 6) X Y := by
  rw [← bcV_e s hs]
  unfold f_Int_bitCount
  rw [lt_e, lt_e, lt_e, lt_e, lt_e]
  rfl
theorem bit_nI : ∀ k, k < 31 → bit k = nI (2 ^ k) := by decide +kernel
def gaR (n m : Nat) (kd sk g : Pg) (dd : Nat) (v : Int32) : Nat → Int32
  | 0 => -9
  | s + 1 => if gaR n m kd sk g dd v s = -9 ∨ mnA (nI s) 6 < mnA (gaR n m kd sk g dd v s) 6 then (if crA (daysP n m kd sk (upd g 12 (nI s)) dd) n < v then gaR n m kd sk g dd v s else nI s) else gaR n m kd sk g dd v s
theorem gaR_b (n m : Nat) (kd sk g : Pg) (dd : Nat) (v : Int32) : ∀ s, gaR n m kd sk g dd v s = -9 ∨ ∃ s', s' < s ∧ gaR n m kd sk g dd v s = nI s'
  | 0 => Or.inl rfl
  | s + 1 => by
    have ih := gaR_b n m kd sk g dd v s
    have ih' : gaR n m kd sk g dd v s = -9 ∨ ∃ s', s' < s + 1 ∧ gaR n m kd sk g dd v s = nI s' := by
      rcases ih with h | ⟨s', h1, h2⟩
      · exact Or.inl h
      · exact Or.inr ⟨s', by omega, h2⟩
    rw [gaR]
    split
    · split
      · exact ih'
      · exact Or.inr ⟨s, by omega, rfl⟩
    · exact ih'
theorem l_gates {X : HI} {Y : HL} {n m dd t : Nat} {kd sk g : Pg} (hE : EC n m kd sk X) (hp : ∀ k, k < 15 → pgC X 16 k = g k) (h14 : g 14 = nI t) (ht : t + dd < 2 ^ 31) (hdd : dd < 256) (v : Int32) (kx : Int32 → Int32 → HI → HL → Option Out) : ∀ d f i (g0 : Pg), i + d = 2 ^ (n - 1) → d < f → ∃ g', l_Bri_gates_30 (nI dd) v kx f (gaR n m kd sk g dd v i) (nI i) (setC X 19 g0) Y = kx (gaR n m kd sk g dd v (2 ^ (n - 1))) (nI (2 ^ (n - 1))) (setC X 19 g') Y := by
  have n6 := hE.2.2.1
  have n5 : 2 ^ (n - 1) ≤ 2 ^ 5 := Nat.pow_le_pow_right (by decide) (by omega)
  intro d
  induction d with
  | zero =>
    intro f i g0 h hf
    obtain ⟨f, rfl⟩ : ∃ f', f = f' + 1 := ⟨f - 1, by omega⟩
    have e : i = 2 ^ (n - 1) := by omega
    subst e
    refine ⟨g0, ?_⟩
    rw [l_Bri_gates_30, s_gateCount (hE.set isP_19), bi_rI, if_pos (show (1 : Int32) <<< (nI (n - 1) &&& 31) ≤ nI (2 ^ (n - 1)) from by
      show bit (n - 1) ≤ _
      rw [bit_nI _ (by omega)]
      exact nI_le (Nat.le_refl _) (by omega))]
  | succ d ih =>
    intro f i g0 h hf
    obtain ⟨f, rfl⟩ : ∃ f', f = f' + 1 := ⟨f - 1, by omega⟩
    have h12 : upd g 12 (nI i) 14 = nI t := by rw [upd_n _ _ (by decide)]; exact h14
    have step : ∀ F, gaR n m kd sk g dd v (i + 1) = (if crA (daysP n m kd sk (upd g 12 (nI i)) dd) n < v then F else nI i) → ∃ g', b_Bri_gates_65 (fun a3 a4 A B => l_Bri_gates_30 (nI dd) v kx f a3 a4 A B) kx (nI dd) v F (nI i) (setC X 19 g0) Y = kx (gaR n m kd sk g dd v (2 ^ (n - 1))) (nI (2 ^ (n - 1))) (setC X 19 g') Y := by
      intro F hF
      obtain ⟨g', hg'⟩ := ih f (i + 1) (daysP n m kd sk (upd g 12 (nI i)) dd) (by omega) (by omega)
      refine ⟨g', ?_⟩
      unfold b_Bri_gates_65 b_Bri_gates_91
      rw [s_fromNow2 hp, br_rR, lh_e, upC_3, s_crustBehind isP_19 hE (t := t) ht hdd h12, bi_rI, nI_up]
      rw [hF] at hg'
      split
      · next hc => rw [if_pos hc] at hg'; exact hg'
      · next hc => rw [if_neg hc] at hg'; exact hg'
    have gs : gaR n m kd sk g dd v (i + 1) = if gaR n m kd sk g dd v i = -9 ∨ mnA (nI i) 6 < mnA (gaR n m kd sk g dd v i) 6 then (if crA (daysP n m kd sk (upd g 12 (nI i)) dd) n < v then gaR n m kd sk g dd v i else nI i) else gaR n m kd sk g dd v i := rfl
    rw [l_Bri_gates_30, s_gateCount (hE.set isP_19), bi_rI, if_neg (show ¬ (1 : Int32) <<< (nI (n - 1) &&& 31) ≤ nI i from by
      show ¬ bit (n - 1) ≤ _
      rw [bit_nI _ (by omega)]
      exact nI_ge (by omega) (by omega))]
    by_cases h9 : gaR n m kd sk g dd v i = -9
    · rw [if_pos h9]
      exact step _ (by rw [gs, if_pos (Or.inl h9)])
    · rw [if_neg h9]
      rcases gaR_b n m kd sk g dd v i with hb | ⟨s', hs', hb⟩
      · exact absurd hb h9
      · rw [s_bitCount (by omega), bi_rI]
        rw [show f_Int_bitCount (gaR n m kd sk g dd v i) (setC X 19 g0) Y = rI (mnA (gaR n m kd sk g dd v i) 6) (setC X 19 g0) Y from by rw [hb]; exact s_bitCount (by omega), bi_rI]
        by_cases hlt : mnA (nI i) 6 < mnA (gaR n m kd sk g dd v i) 6
        · rw [if_pos hlt]
          exact step _ (by rw [gs, if_pos (Or.inr hlt)])
        · rw [if_neg hlt]
          unfold b_Bri_gates_91
          rw [nI_up]
          have e := ih f (i + 1) g0 (by omega) (by omega)
          rw [gs, if_neg (fun q => q.elim h9 hlt)] at e
          exact e
theorem ml_gates {X : HI} {Y : HL} {n m dd t : Nat} {kd sk g : Pg} (hE : EM n m kd sk X) (hs : okS4 sk) (hp : X 76 = g) (hok : okG g) (h14 : g 14 = nI t) (ht : t + dd < 2 ^ 31) (hdd : dd < 256) (v : Int32) (kx : Int32 → Int32 → HI → HL → Option Out) : ∀ d f i (g0 : Pg), i + d = 2 ^ (n - 1) → d < f → ∃ g', l_Mod_gates_60 (nI dd) v (nI (2 ^ (n - 1))) kx f (gaR n m kd sk g dd v i) (nI i) (setM X 77 g0) Y = kx (gaR n m kd sk g dd v (2 ^ (n - 1))) (nI (2 ^ (n - 1))) (setM X 77 g') Y := by
  have n6 := hE.2.2.1
  have n5 : 2 ^ (n - 1) ≤ 2 ^ 5 := Nat.pow_le_pow_right (by decide) (by omega)
  intro d
  induction d with
  | zero =>
    intro f i g0 h hf
    obtain ⟨f, rfl⟩ : ∃ f', f = f' + 1 := ⟨f - 1, by omega⟩
    have e : i = 2 ^ (n - 1) := by omega
    subst e
    refine ⟨g0, ?_⟩
    rw [l_Mod_gates_60, if_pos (nI_le (Nat.le_refl _) (by omega))]
  | succ d ih =>
    intro f i g0 h hf
    obtain ⟨f, rfl⟩ : ∃ f', f = f' + 1 := ⟨f - 1, by omega⟩
    have h12 : upd g 12 (nI i) 14 = nI t := by rw [upd_n _ _ (by decide)]; exact h14
    have step : ∀ F, gaR n m kd sk g dd v (i + 1) = (if crA (daysP n m kd sk (upd g 12 (nI i)) dd) n < v then F else nI i) → ∃ g', b_Mod_gates_85 (fun a3 a4 A B => l_Mod_gates_60 (nI dd) v (nI (2 ^ (n - 1))) kx f a3 a4 A B) kx (nI dd) v F (nI (2 ^ (n - 1))) (nI i) (setM X 77 g0) Y = kx (gaR n m kd sk g dd v (2 ^ (n - 1))) (nI (2 ^ (n - 1))) (setM X 77 g') Y := by
      intro F hF
      obtain ⟨g', hg'⟩ := ih f (i + 1) (daysP n m kd sk (upd g 12 (nI i)) dd) (by omega) (by omega)
      refine ⟨g', ?_⟩
      unfold b_Mod_gates_85 b_Mod_gates_125 b_Mod_gates_126
      rw [m_begin2, bv_rV, show ixb (12 : Int32) 15 = true from by decide, wr_t, show (12 : Int32).toNatClampNeg = 12 from by decide, upM _ (by decide), hp, m_goDays (Or.inr rfl) hE hs (okG_tu hok _) (t := t) ht hdd h12, bv_rV, m_crustOfAll (Or.inr rfl) hE, bi_rI, nI_up]
      rw [hF] at hg'
      split
      · next hc => rw [if_pos hc] at hg'; exact hg'
      · next hc => rw [if_neg hc] at hg'; exact hg'
    have gs : gaR n m kd sk g dd v (i + 1) = if gaR n m kd sk g dd v i = -9 ∨ mnA (nI i) 6 < mnA (gaR n m kd sk g dd v i) 6 then (if crA (daysP n m kd sk (upd g 12 (nI i)) dd) n < v then gaR n m kd sk g dd v i else nI i) else gaR n m kd sk g dd v i := rfl
    rw [l_Mod_gates_60, if_neg (nI_ge (by omega) (by omega))]
    by_cases h9 : gaR n m kd sk g dd v i = -9
    · rw [if_pos h9]
      exact step _ (by rw [gs, if_pos (Or.inl h9)])
    · rw [if_neg h9, m_many, bi_rI, m_many, bi_rI]
      by_cases hlt : mnA (nI i) 6 < mnA (gaR n m kd sk g dd v i) 6
      · rw [if_neg (by rw [i_le]; rw [i_lt] at hlt; omega)]
        exact step _ (by rw [gs, if_pos (Or.inr hlt)])
      · rw [if_pos (by rw [i_le]; rw [i_lt] at hlt; omega)]
        unfold b_Mod_gates_126
        rw [nI_up]
        have e := ih f (i + 1) g0 (by omega) (by omega)
        rw [gs, if_neg (fun q => q.elim h9 hlt)] at e
        exact e
theorem ok_gates (x v : Int32) : Ok (fun X Y => f_Bri_gates x v X Y) (fun X Y => f_Mod_gates x v X Y) := by
  apply Ok.ask
  intro T n m X Y hT hR hg hp
  obtain ⟨hE, h4, h6, hs4⟩ := id hg
  have hM := hg.em
  have n6 := hE.2.2.1
  have n5 : 2 ^ (n - 1) ≤ 2 ^ 5 := Nat.pow_le_pow_right (by decide) (by omega)
  obtain ⟨hpg, hok, hz, t, ht, h14⟩ := hp
  have gen : ∀ r : Int32, f_Bri_gates x v X Y = rI r X Y → f_Mod_gates x v X Y = rI r (up X 70 0 0) Y → ∃ r X1 X2, f_Bri_gates x v X Y = rI r X1 Y ∧ smX X X1 ∧ f_Mod_gates x v X1 Y = rI r X2 Y ∧ smX X1 X2 := fun r h1 h2 => ⟨r, X, _, h1, smX.rf X, h2, thr X⟩
  cases hf : ft x 1 9 with
  | false =>
    exact gen (-2) (by unfold f_Bri_gates; rw [s_isFTn hf, bi_rI, if_pos z00]) (by unfold f_Mod_gates; rw [lh_e, m_inN2 (a := 1) (b := 9) (by decide) (by decide) hf, bi_rI, if_pos z00])
  | true =>
    cases hf2 : ft v 0 999 with
    | false =>
      exact gen (-2) (by unfold f_Bri_gates; rw [s_isFTy hf, bi_rI, if_neg n10, s_isFTn hf2, bi_rI, if_pos z00]) (by unfold f_Mod_gates; rw [lh_e, m_inY2 (a := 1) (b := 9) (by decide) (by decide) hf, bi_rI, if_neg n10, m_inN2 (a := 0) (b := 999) (by decide) (by decide) hf2, bi_rI, if_pos z00])
    | true =>
      obtain ⟨dd, hd1, hd2, rfl⟩ := ft_nat (a := 1) (b := 9) (by decide) (by decide) hf
      obtain ⟨g1, e1⟩ := l_gates (X := X) (Y := Y) (g := X 76) hE hpg h14 (dd := dd) (by omega) (by omega) v (fun w22 w23 X24 Y25 => (rI w22 X24 Y25)) (2 ^ (n - 1)) 256 0 (pgC X 19) (by omega) (by omega)
      rw [setC_self] at e1
      have s1 := smX_C X g1
      have s2 := s1.tr (thr (setC X 19 g1))
      have hM2 := hM.same s2
      obtain ⟨g2, e2⟩ := ml_gates (X := up (setC X 19 g1) 70 0 0) (Y := Y) (g := X 76) hM2 hs4 s2.p76 hok h14 (dd := dd) (by omega) (by omega) v (fun w22 w23 X24 Y25 => (rI w22 X24 Y25)) (2 ^ (n - 1)) 256 0 (up (setC X 19 g1) 70 0 0 77) (by omega) (by omega)
      rw [setM_id (fun _ _ => rfl)] at e2
      refine ⟨gaR n m (X 72) (X 73) (X 76) dd v (2 ^ (n - 1)), setC X 19 g1, setM (up (setC X 19 g1) 70 0 0) 77 g2, ?_, s1, ?_, (thr _).tr (smX_M _ g2)⟩
      · show f_Bri_gates (nI dd) v X Y = _
        unfold f_Bri_gates
        rw [s_isFTy hf, bi_rI, if_neg n10, s_isFTy hf2, bi_rI, if_neg n10]
        exact e1
      · show f_Mod_gates (nI dd) v _ Y = _
        unfold f_Mod_gates
        rw [lh_e, m_inY2 (a := 1) (b := 9) (by decide) (by decide) hf, bi_rI, if_neg n10, m_inY2 (a := 0) (b := 999) (by decide) (by decide) hf2, bi_rI, if_neg n10, hM2.1]
        unfold b_Mod_gates_55
        by_cases h2 : 2 ≤ n
        · rw [if_pos (show (2 : Int32) ≤ nI n from nI_le (a := 2) h2 (by omega)), show nI n - (1 : Int32) = nI (n - 1) from pk_sub (b := 1) (by omega), show (1 : Int32) <<< (nI (n - 1) &&& 31) = nI (2 ^ (n - 1)) from bit_nI _ (by omega)]
          exact e2
        · rw [if_neg (show ¬ (2 : Int32) ≤ nI n from nI_ge (b := 2) (by omega) (by omega))]
          rw [show n - 1 = 0 by omega] at e2 ⊢
          exact e2
