/-! days -/
def okG (g : Pg) : Prop := ∀ k, k < 6 → (0 ≤ (g k).toInt ∧ (g k).toInt ≤ 9) ∧ (0 ≤ (g (6 + k)).toInt ∧ (g (6 + k)).toInt ≤ 999)
def stL (kd g : Pg) (k : Nat) : Pg := if hasB (g 12) k then (letR kd g k 1).2 else g
def lgP (kd g : Pg) : Nat → Pg
  | 0 => g
  | j + 1 => stL kd (lgP kd g j) j
def stK (kd g : Pg) (k : Nat) : Pg := if kd k = 3 then (if (1 : Int32) ≤ g k then drP g k 1 else g) else g
def lkP (kd g : Pg) : Nat → Pg
  | 0 => g
  | j + 1 => stK kd (lkP kd g j) j
def stR (kd g : Pg) (e : Int32) (k : Nat) : Pg := upd g k (g k + (if rmP kd g k < e then rmP kd g k else e))
def raiP (kd g : Pg) (e : Int32) : Nat → Pg
  | 0 => g
  | j + 1 => stR kd (raiP kd g e j) e j
def stS (kd g : Pg) (e : Int32) (k : Nat) : Pg := upd g k (if (0 : Int32) < g k - (if kd k = 2 then e + 1 else e) then g k - (if kd k = 2 then e + 1 else e) else 0)
def shiP (kd g : Pg) (e : Int32) : Nat → Pg
  | 0 => g
  | j + 1 => stS kd (shiP kd g e j) e j
/-- what the sky does: e below 0 is rain; c: clouded -/
def skyP (n : Nat) (kd g : Pg) (e : Int32) (c : Bool) : Pg := if 0 ≤ e then (if e ≤ 0 then g else if c then g else shiP kd g e n) else raiP kd g (-e) n
def dayP (n m : Nat) (kd sk g : Pg) (c : Bool) : Pg := upd (skyP n kd (lkP kd (lgP kd g (n - 1)) n) (skP m sk (g 14).toNatClampNeg) c) 14 (g 14 + 1)
def daysP (n m : Nat) (kd sk g : Pg) : Nat → Pg
  | 0 => g
  | j + 1 => dayP n m kd sk (daysP n m kd sk g j) false
-- what stays
theorem drP_hi (g : Pg) (k : Nat) (x : Int32) {j : Nat} (hk : k < 6) (hj : 12 ≤ j) : drP g k x j = g j := by
  unfold drP
  rw [upd_n _ _ (by omega), upd_n _ _ (by omega)]
theorem flP_hi (g : Pg) (k : Nat) (x s : Int32) {j : Nat} (hk : k < 6) (hj : 12 ≤ j) : flP g k x s j = g j := by
  unfold flP
  rw [upd_n _ _ (by omega), upd_n _ _ (by omega)]
theorem letR_hi (kd g : Pg) (k : Nat) (x : Int32) {j : Nat} (hk : k + 1 < 6) (hj : 12 ≤ j) : (letR kd g k x).2 j = g j := by
  unfold letR
  split
  · rfl
  · split
    · rfl
    · split
      · rfl
      · show leP g k x j = g j
        unfold leP
        rw [flP_hi _ _ _ _ (by omega) hj, drP_hi _ _ _ (by omega) hj]
theorem lgP_hi (kd g : Pg) {j : Nat} (hj : 12 ≤ j) : ∀ i, i < 6 → lgP kd g i j = g j
  | 0, _ => rfl
  | i + 1, hi => by
    rw [lgP]
    unfold stL
    split
    · rw [letR_hi _ _ _ _ (by omega) hj, lgP_hi kd g hj i (by omega)]
    · exact lgP_hi kd g hj i (by omega)
theorem lkP_hi (kd g : Pg) {j : Nat} (hj : 12 ≤ j) : ∀ i, i ≤ 6 → lkP kd g i j = g j
  | 0, _ => rfl
  | i + 1, hi => by
    rw [lkP]
    unfold stK
    split
    · split
      · rw [drP_hi _ _ _ (by omega) hj, lkP_hi kd g hj i (by omega)]
      · exact lkP_hi kd g hj i (by omega)
    · exact lkP_hi kd g hj i (by omega)
theorem raiP_hi (kd g : Pg) (e : Int32) {j : Nat} (hj : 6 ≤ j) : ∀ i, i ≤ 6 → raiP kd g e i j = g j
  | 0, _ => rfl
  | i + 1, hi => by
    rw [raiP]
    unfold stR
    rw [upd_n _ _ (by omega), raiP_hi kd g e hj i (by omega)]
theorem shiP_hi (kd g : Pg) (e : Int32) {j : Nat} (hj : 6 ≤ j) : ∀ i, i ≤ 6 → shiP kd g e i j = g j
  | 0, _ => rfl
  | i + 1, hi => by
    rw [shiP]
    unfold stS
    rw [upd_n _ _ (by omega), shiP_hi kd g e hj i (by omega)]
theorem skyP_hi {n : Nat} (hn : n ≤ 6) (kd g : Pg) (e : Int32) (c : Bool) {j : Nat} (hj : 6 ≤ j) : skyP n kd g e c j = g j := by
  unfold skyP
  split
  · split
    · rfl
    · split
      · rfl
      · exact shiP_hi kd g e hj n hn
  · exact raiP_hi kd g _ hj n hn
theorem dayP_14 {n m : Nat} (kd sk g : Pg) (c : Bool) : dayP n m kd sk g c 14 = g 14 + 1 := upd_s _ _ _
theorem daysP_14 {n m : Nat} (kd sk g : Pg) : ∀ j, daysP n m kd sk g j 14 = g 14 + nI j
  | 0 => by
    rw [daysP]
    show g 14 = g 14 + nI 0
    rw [nI_0, Int32.add_zero]
  | j + 1 => by
    rw [daysP, dayP_14, daysP_14 kd sk g j, Int32.add_assoc, nI_up]
theorem zif : (if false = true then (1 : Int32) else 0) = 0 := rfl
theorem oif : ¬ (if true = true then (1 : Int32) else 0) = 0 := by decide
section DA
variable {X : HI} {Y : HL} {n m : Nat} {kd sk g : Pg} {p k : Nat}
theorem l_sumOf (hE : EC n m kd sk X) {w b : Nat} (hw : ∀ k, k < 6 → X w k = g (b + k)) (kx : Int32 → Int32 → HI → HL → Option Out) : ∀ d f i, i + d = n → d < f → l_Pan_sumOf_4 p w kx f (suA g b i) (nI i) X Y = kx (suA g b n) (nI n) X Y := by
  have h6 := hE.2.2.1
  intro d
  induction d with
  | zero =>
    intro f i h hf
    obtain ⟨f, rfl⟩ : ∃ f', f = f' + 1 := ⟨f - 1, by omega⟩
    have e : i = n := by omega
    subst e
    rw [l_Pan_sumOf_4, hE.1, if_pos (nI_le (Nat.le_refl _) (by omega))]
  | succ d ih =>
    intro f i h hf
    obtain ⟨f, rfl⟩ : ∃ f', f = f' + 1 := ⟨f - 1, by omega⟩
    rw [l_Pan_sumOf_4, hE.1, if_neg (nI_ge (by omega) (by omega)), ixb_nI (by omega) (by decide), gd_t, lt_e, cl_nI (by omega), hw i (by omega), nI_up]
    exact ih f (i + 1) (by omega) (by omega)
theorem s_sumOf (hE : EC n m kd sk X) {w b : Nat} (hw : ∀ k, k < 6 → X w k = g (b + k)) : f_Pan_sumOf p w X Y = rI (suA g b n) X Y := by
  unfold f_Pan_sumOf
  exact l_sumOf hE hw _ n 256 0 (by omega) (by have := hE.2.2.1; omega)
theorem l_crustOfAll (hp : IsP p) (hE : EC n m kd sk X) (kx : Int32 → Int32 → HI → HL → Option Out) : ∀ d f i, i + d = n → d < f → l_Pan_crustOfAll_4 p kx f (crA g i) (nI i) (setC X p g) Y = kx (crA g n) (nI n) (setC X p g) Y := by
  have h6 := hE.2.2.1
  intro d
  induction d with
  | zero =>
    intro f i h hf
    obtain ⟨f, rfl⟩ : ∃ f', f = f' + 1 := ⟨f - 1, by omega⟩
    have e : i = n := by omega
    subst e
    rw [l_Pan_crustOfAll_4, (hE.set (g := g) hp).1, if_pos (nI_le (Nat.le_refl _) (by omega))]
  | succ d ih =>
    intro f i h hf
    obtain ⟨f, rfl⟩ : ∃ f', f = f' + 1 := ⟨f - 1, by omega⟩
    rw [l_Pan_crustOfAll_4, (hE.set (g := g) hp).1, if_neg (nI_ge (by omega) (by omega)), s_crustOf (by omega), bi_rI, lt_e, nI_up]
    exact ih f (i + 1) (by omega) (by omega)
theorem s_crustOfAll (hp : IsP p) (hE : EC n m kd sk X) : f_Pan_crustOfAll p (setC X p g) Y = rI (crA g n) (setC X p g) Y := by
  unfold f_Pan_crustOfAll
  exact l_crustOfAll hp hE _ n 256 0 (by omega) (by have := hE.2.2.1; omega)
theorem l_rakeable (hp : IsP p) (hE : EC n m kd sk X) (kx : Int32 → Int32 → HI → HL → Option Out) : ∀ d f i, i + d = n → d < f → l_Pan_rakeable_4 p kx f (riA g i) (nI i) (setC X p g) Y = kx (riA g n) (nI n) (setC X p g) Y := by
  have h6 := hE.2.2.1
  intro d
  induction d with
  | zero =>
    intro f i h hf
    obtain ⟨f, rfl⟩ : ∃ f', f = f' + 1 := ⟨f - 1, by omega⟩
    have e : i = n := by omega
    subst e
    rw [l_Pan_rakeable_4, (hE.set (g := g) hp).1, if_pos (nI_le (Nat.le_refl _) (by omega))]
  | succ d ih =>
    intro f i h hf
    obtain ⟨f, rfl⟩ : ∃ f', f = f' + 1 := ⟨f - 1, by omega⟩
    have e := ih f (i + 1) (by omega) (by omega)
    rw [riA] at e
    rw [l_Pan_rakeable_4, (hE.set (g := g) hp).1, if_neg (nI_ge (by omega) (by omega)), s_canRake (by omega), bi_rI]
    cases hr : rkB g i with
    | false =>
      rw [hr, if_neg (by decide), Int32.or_zero] at e
      rw [if_pos zif]
      unfold b_Pan_rakeable_29
      rw [nI_up]
      exact e
    | true =>
      rw [hr, if_pos rfl] at e
      rw [if_neg oif, lt_e]
      unfold b_Pan_rakeable_29
      rw [nI_up]
      exact e
theorem s_rakeable (hp : IsP p) (hE : EC n m kd sk X) : f_Pan_rakeable p (setC X p g) Y = rI (riA g n) (setC X p g) Y := by
  unfold f_Pan_rakeable
  exact l_rakeable hp hE _ n 256 0 (by omega) (by have := hE.2.2.1; omega)
theorem l_rain (hp : IsP p) (hE : EC n m kd sk X) (e : Int32) (kx : Int32 → HI → HL → Option Out) : ∀ d f i, i + d = n → d < f → l_Pan_rain_2 p e kx f (nI i) (setC X p (raiP kd g e i)) Y = kx (nI n) (setC X p (raiP kd g e n)) Y := by
  have h6 := hE.2.2.1
  intro d
  induction d with
  | zero =>
    intro f i h hf
    obtain ⟨f, rfl⟩ : ∃ f', f = f' + 1 := ⟨f - 1, by omega⟩
    have e : i = n := by omega
    subst e
    rw [l_Pan_rain_2, (hE.set hp).1, if_pos (nI_le (Nat.le_refl _) (by omega))]
  | succ d ih =>
    intro f i h hf
    obtain ⟨f, rfl⟩ : ∃ f', f = f' + 1 := ⟨f - 1, by omega⟩
    rw [l_Pan_rain_2, (hE.set hp).1, if_neg (nI_ge (by omega) (by omega)), ixb_nI (by omega) (by decide), gd_t, s_roomOf hp hE (by omega), bi_rI, wr_t, cl_nI (by omega), setC_w (by omega), upC_w _ (by omega), nI_up]
    exact ih f (i + 1) (by omega) (by omega)
theorem s_rain (hp : IsP p) (hE : EC n m kd sk X) (e : Int32) : f_Pan_rain p e (setC X p g) Y = rV (setC X p (raiP kd g e n)) Y := by
  unfold f_Pan_rain
  exact l_rain hp hE e _ n 256 0 (by omega) (by have := hE.2.2.1; omega)
theorem l_shine (hp : IsP p) (hE : EC n m kd sk X) (e : Int32) (kx : Int32 → HI → HL → Option Out) : ∀ d f i, i + d = n → d < f → l_Pan_shine_2 p e kx f (nI i) (setC X p (shiP kd g e i)) Y = kx (nI n) (setC X p (shiP kd g e n)) Y := by
  have h6 := hE.2.2.1
  intro d
  induction d with
  | zero =>
    intro f i h hf
    obtain ⟨f, rfl⟩ : ∃ f', f = f' + 1 := ⟨f - 1, by omega⟩
    have e : i = n := by omega
    subst e
    rw [l_Pan_shine_2, (hE.set hp).1, if_pos (nI_le (Nat.le_refl _) (by omega))]
  | succ d ih =>
    intro f i h hf
    obtain ⟨f, rfl⟩ : ∃ f', f = f' + 1 := ⟨f - 1, by omega⟩
    have e1 := ih f (i + 1) (by omega) (by omega)
    rw [shiP] at e1
    unfold stS at e1
    rw [l_Pan_shine_2, (hE.set hp).1, if_neg (nI_ge (by omega) (by omega)), ixb_nI (by omega) (by decide), gd_t, cl_nI (by omega), (hE.set hp).2.2.2.2.1 i (by omega)]
    unfold b_Pan_shine_33
    by_cases hk : kd i = 2
    · rw [if_pos hk] at e1
      rw [if_pos hk, ixb_nI (by omega) (by decide), gd_t, wr_t, cl_nI (by omega), setC_w (by omega), upC_w _ (by omega), nI_up]
      exact e1
    · rw [if_neg hk] at e1
      rw [if_neg hk, ixb_nI (by omega) (by decide), gd_t, wr_t, cl_nI (by omega), setC_w (by omega), upC_w _ (by omega), nI_up]
      exact e1
theorem s_shine (hp : IsP p) (hE : EC n m kd sk X) (e : Int32) : f_Pan_shine p e (setC X p g) Y = rV (setC X p (shiP kd g e n)) Y := by
  unfold f_Pan_shine
  exact l_shine hp hE e _ n 256 0 (by omega) (by have := hE.2.2.1; omega)
theorem l_day1 (hp : IsP p) (hE : EC n m kd sk X) (z : Int32) (kx : Int32 → HI → HL → Option Out) : ∀ d f i, i + d = n - 1 → d < f → l_Pan_passDay_2 p z kx f (nI i) (setC X p (lgP kd g i)) Y = kx (nI (n - 1)) (setC X p (lgP kd g (n - 1))) Y := by
  have h6 := hE.2.2.1
  intro d
  induction d with
  | zero =>
    intro f i h hf
    obtain ⟨f, rfl⟩ : ∃ f', f = f' + 1 := ⟨f - 1, by omega⟩
    have e : i = n - 1 := by omega
    subst e
    rw [l_Pan_passDay_2, s_gateCount (hE.set hp), bi_rI, if_pos (nI_le (Nat.le_refl _) (by omega))]
  | succ d ih =>
    intro f i h hf
    obtain ⟨f, rfl⟩ : ∃ f', f = f' + 1 := ⟨f - 1, by omega⟩
    have e1 := ih f (i + 1) (by omega) (by omega)
    rw [lgP] at e1
    unfold stL at e1
    rw [l_Pan_passDay_2, s_gateCount (hE.set hp), bi_rI, if_neg (nI_ge (by omega) (by omega)), s_isOpen, bi_rI]
    unfold b_Pan_passDay_28
    cases ho : hasB (lgP kd g i 12) i with
    | false =>
      rw [ho, if_neg (by decide)] at e1
      rw [if_pos zif, nI_up]
      exact e1
    | true =>
      rw [ho, if_pos rfl] at e1
      rw [if_neg oif, s_letOn hp hE (by omega), bi_rI, nI_up]
      exact e1
theorem l_day2 (hp : IsP p) (hE : EC n m kd sk X) (z : Int32) (kx : Int32 → HI → HL → Option Out) : ∀ d f i, i + d = n → d < f → l_Pan_passDay_36 p z kx f (nI i) (setC X p (lkP kd g i)) Y = kx (nI n) (setC X p (lkP kd g n)) Y := by
  have h6 := hE.2.2.1
  intro d
  induction d with
  | zero =>
    intro f i h hf
    obtain ⟨f, rfl⟩ : ∃ f', f = f' + 1 := ⟨f - 1, by omega⟩
    have e : i = n := by omega
    subst e
    rw [l_Pan_passDay_36, (hE.set hp).1, if_pos (nI_le (Nat.le_refl _) (by omega))]
  | succ d ih =>
    intro f i h hf
    obtain ⟨f, rfl⟩ : ∃ f', f = f' + 1 := ⟨f - 1, by omega⟩
    have e1 := ih f (i + 1) (by omega) (by omega)
    rw [lkP] at e1
    unfold stK at e1
    rw [l_Pan_passDay_36, (hE.set hp).1, if_neg (nI_ge (by omega) (by omega)), ixb_nI (by omega) (by decide), gd_t, cl_nI (by omega), (hE.set hp).2.2.2.2.1 i (by omega)]
    unfold b_Pan_passDay_67
    by_cases hk : kd i = 3
    · rw [if_pos hk] at e1
      rw [if_pos hk]
      by_cases h1 : (1 : Int32) ≤ lkP kd g i i
      · rw [if_pos h1] at e1
        rw [s_drain (by omega) (by decide) h1, bi_rI, nI_up]
        exact e1
      · rw [if_neg h1] at e1
        rw [s_drain0 (by omega) h1, bi_rI, nI_up]
        exact e1
    · rw [if_neg hk] at e1
      rw [if_neg hk, nI_up]
      exact e1
theorem s_passDay (hp : IsP p) (hE : EC n m kd sk X) {t : Nat} (ht : t < 2 ^ 31) (hg : g 14 = nI t) (z : Int32) : f_Pan_passDay p z (setC X p g) Y = rV (setC X p (dayP n m kd sk g (!decide (z = 0)))) Y := by
  have h6 := hE.2.2.1
  have e14 : lkP kd (lgP kd g (n - 1)) n 14 = nI t := by rw [lkP_hi _ _ (by omega) n h6, lgP_hi _ _ (by omega) (n - 1) (by omega), hg]
  unfold f_Pan_passDay
  have d1 := l_day1 (g := g) (Y := Y) hp hE z (fun w10 X11 Y12 =>
    (l_Pan_passDay_36 p z (fun w16 X17 Y18 =>
    bi (f_Gro_skyOf (X17 p 5) X17 Y18) (fun r21 X19 Y20 =>
    (if 0 ≤ r21 then
    (if r21 ≤ 0 then
    (b_Pan_passDay_111 p X19 Y20)
    else
    (if z = 0 then
    bv (f_Pan_shine p r21 X19 Y20) (fun X23 Y24 =>
    (b_Pan_passDay_111 p X23 Y24))
    else
    (b_Pan_passDay_111 p X19 Y20)))
    else
    bv (f_Pan_rain p (-r21) X19 Y20) (fun X25 Y26 =>
    (b_Pan_passDay_111 p X25 Y26))))) 256 (0 : Int32) X11 Y12)) (n - 1) 256 0 (by omega) (by omega)
  rw [show nI 0 = (0 : Int32) from rfl, show lgP kd g 0 = g from rfl] at d1
  rw [d1]
  have d2 := l_day2 (g := lgP kd g (n - 1)) (Y := Y) hp hE z (fun w16 X17 Y18 =>
    bi (f_Gro_skyOf (X17 p 5) X17 Y18) (fun r21 X19 Y20 =>
    (if 0 ≤ r21 then
    (if r21 ≤ 0 then
    (b_Pan_passDay_111 p X19 Y20)
    else
    (if z = 0 then
    bv (f_Pan_shine p r21 X19 Y20) (fun X23 Y24 =>
    (b_Pan_passDay_111 p X23 Y24))
    else
    (b_Pan_passDay_111 p X19 Y20)))
    else
    bv (f_Pan_rain p (-r21) X19 Y20) (fun X25 Y26 =>
    (b_Pan_passDay_111 p X25 Y26))))) n 256 0 (by omega) (by omega)
  rw [show nI 0 = (0 : Int32) from rfl, show lkP kd (lgP kd g (n - 1)) 0 = lgP kd g (n - 1) from rfl] at d2
  rw [d2, setC_5, e14, s_skyOf (hE.set hp) ht, bi_rI]
  unfold dayP skyP b_Pan_passDay_111
  rw [hg, cl_nI ht]
  generalize hq : lkP kd (lgP kd g (n - 1)) n = q at e14
  generalize skP m sk t = e
  by_cases h1 : 0 ≤ e
  · rw [if_pos h1, if_pos h1]
    by_cases h2 : e ≤ 0
    · rw [if_pos h2, if_pos h2, lh_e, setC_5, upC_5, e14]
    · rw [if_neg h2, if_neg h2]
      by_cases hz : z = 0
      · rw [if_pos hz, s_shine hp hE, bv_rV, lh_e, setC_5, upC_5, shiP_hi _ _ _ (by omega) n h6, e14]
        simp [hz]
      · rw [if_neg hz, lh_e, setC_5, upC_5, e14]
        simp [hz]
  · rw [if_neg h1, if_neg h1, s_rain hp hE, bv_rV, lh_e, setC_5, upC_5, raiP_hi _ _ _ (by omega) n h6, e14]
end DA
