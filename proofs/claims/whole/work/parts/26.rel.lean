/-! the model's loops on pages; what holds between the two -/
section ML
variable {X : HI} {Y : HL} {n m : Nat} {kd sk g : Pg} {a k : Nat}
theorem ml_goDays (ha : a = 76 ∨ a = 77) (hE : EM n m kd sk X) (hs : okS4 sk) (hg0 : okG g) {t dd : Nat} (ht : t + dd < 2 ^ 31) (hg : g 14 = nI t) (kx : Int32 → HI → HL → Option Out) : ∀ d f i, i + d = dd → d < f → l_Mod_goDays_2 a (nI dd) kx f (nI i) (setM X a (daysP n m kd sk g i)) Y = kx (nI dd) (setM X a (daysP n m kd sk g dd)) Y := by
  intro d
  induction d with
  | zero =>
    intro f i h hf
    obtain ⟨f, rfl⟩ : ∃ f', f = f' + 1 := ⟨f - 1, by omega⟩
    have e : i = dd := by omega
    subst e
    rw [l_Mod_goDays_2, if_pos (nI_le (Nat.le_refl _) (by omega))]
  | succ d ih =>
    intro f i h hf
    obtain ⟨f, rfl⟩ : ∃ f', f = f' + 1 := ⟨f - 1, by omega⟩
    have e14 : daysP n m kd sk g i 14 = nI (t + i) := by rw [daysP_14, hg, nI_add]
    have e1 := m_goDay (Y := Y) ha hE (t := t + i) (by omega) e14 false
    rw [if_neg (by decide), dayM_eq hE.2.2.1 hE.2.2.2.1 hs (okG_days hE.2.2.1 hE.2.2.2.1 hs hg0 i)] at e1
    rw [l_Mod_goDays_2, if_neg (nI_ge (by omega) (by omega)), e1, bv_rV, nI_up]
    exact ih f (i + 1) (by omega) (by omega)
theorem m_goDays (ha : a = 76 ∨ a = 77) (hE : EM n m kd sk X) (hs : okS4 sk) (hg0 : okG g) {t dd : Nat} (ht : t + dd < 2 ^ 31) (hd : dd < 256) (hg : g 14 = nI t) : f_Mod_goDays a (nI dd) (setM X a g) Y = rV (setM X a (daysP n m kd sk g dd)) Y := by
  unfold f_Mod_goDays
  exact ml_goDays ha hE hs hg0 ht hg _ dd 256 0 (by omega) (by omega)
theorem ml_crustOfAll (ha : a = 76 ∨ a = 77) (hE : EM n m kd sk X) (kx : Int32 → Int32 → HI → HL → Option Out) : ∀ d f i, i + d = n → d < f → l_Mod_crustOfAll_4 a kx f (crA g i) (nI i) (setM X a g) Y = kx (crA g n) (nI n) (setM X a g) Y := by
  have h6 := hE.2.2.1
  intro d
  induction d with
  | zero =>
    intro f i h hf
    obtain ⟨f, rfl⟩ : ∃ f', f = f' + 1 := ⟨f - 1, by omega⟩
    have e : i = n := by omega
    subst e
    rw [l_Mod_crustOfAll_4, (hE.set (g := g) ha).1, if_pos (nI_le (Nat.le_refl _) (by omega))]
  | succ d ih =>
    intro f i h hf
    obtain ⟨f, rfl⟩ : ∃ f', f = f' + 1 := ⟨f - 1, by omega⟩
    rw [l_Mod_crustOfAll_4, (hE.set (g := g) ha).1, if_neg (nI_ge (by omega) (by omega)), m_crustOf (by omega), bi_rI, lt_e, nI_up]
    exact ih f (i + 1) (by omega) (by omega)
theorem m_crustOfAll (ha : a = 76 ∨ a = 77) (hE : EM n m kd sk X) : f_Mod_crustOfAll a (setM X a g) Y = rI (crA g n) (setM X a g) Y := by
  unfold f_Mod_crustOfAll
  exact ml_crustOfAll ha hE _ n 256 0 (by omega) (by have := hE.2.2.1; omega)
theorem ml_ripeOnes (ha : a = 76 ∨ a = 77) (hE : EM n m kd sk X) (kx : Int32 → Int32 → HI → HL → Option Out) : ∀ d f i, i + d = n → d < f → l_Mod_ripeOnes_4 a kx f (riA g i) (nI i) (setM X a g) Y = kx (riA g n) (nI n) (setM X a g) Y := by
  have h6 := hE.2.2.1
  intro d
  induction d with
  | zero =>
    intro f i h hf
    obtain ⟨f, rfl⟩ : ∃ f', f = f' + 1 := ⟨f - 1, by omega⟩
    have e : i = n := by omega
    subst e
    rw [l_Mod_ripeOnes_4, (hE.set (g := g) ha).1, if_pos (nI_le (Nat.le_refl _) (by omega))]
  | succ d ih =>
    intro f i h hf
    obtain ⟨f, rfl⟩ : ∃ f', f = f' + 1 := ⟨f - 1, by omega⟩
    have e := ih f (i + 1) (by omega) (by omega)
    rw [riA] at e
    rw [l_Mod_ripeOnes_4, (hE.set (g := g) ha).1, if_neg (nI_ge (by omega) (by omega)), m_canRake (by omega), bi_rI]
    unfold b_Mod_ripeOnes_28
    cases hr : rkB g i with
    | false =>
      rw [hr, if_neg (by decide)] at e
      rw [if_pos zif, lt_e, nI_up]
      exact e
    | true =>
      rw [hr, if_pos rfl] at e
      rw [if_neg oif, lt_e, nI_up]
      exact e
theorem m_ripeOnes (ha : a = 76 ∨ a = 77) (hE : EM n m kd sk X) : f_Mod_ripeOnes a (setM X a g) Y = rI (riA g n) (setM X a g) Y := by
  unfold f_Mod_ripeOnes
  exact ml_ripeOnes ha hE _ n 256 0 (by omega) (by have := hE.2.2.1; omega)
theorem ml_sumFrom (hE : EM n m kd sk X) {b : Nat} (hb : b ≤ 6) (kx : Int32 → Int32 → HI → HL → Option Out) : ∀ d f i, i + d = n → d < f → l_Mod_sumFrom_4 (nI b) kx f (suA (X 76) b i) (nI i) X Y = kx (suA (X 76) b n) (nI n) X Y := by
  have h6 := hE.2.2.1
  intro d
  induction d with
  | zero =>
    intro f i h hf
    obtain ⟨f, rfl⟩ : ∃ f', f = f' + 1 := ⟨f - 1, by omega⟩
    have e : i = n := by omega
    subst e
    rw [l_Mod_sumFrom_4, hE.1, if_pos (nI_le (Nat.le_refl _) (by omega))]
  | succ d ih =>
    intro f i h hf
    obtain ⟨f, rfl⟩ : ∃ f', f = f' + 1 := ⟨f - 1, by omega⟩
    rw [l_Mod_sumFrom_4, hE.1, if_neg (nI_ge (by omega) (by omega)), nI_add, ixb_nI (by omega) (by decide), gd_t, lt_e, cl_nI (by omega), nI_up]
    exact ih f (i + 1) (by omega) (by omega)
theorem m_sumFrom (hE : EM n m kd sk X) {b : Nat} (hb : b ≤ 6) : f_Mod_sumFrom (nI b) X Y = rI (suA (X 76) b n) X Y := by
  unfold f_Mod_sumFrom
  exact ml_sumFrom hE hb _ n 256 0 (by omega) (by have := hE.2.2.1; omega)
theorem ml_begin (kx : Int32 → HI → HL → Option Out) : ∀ d f i (g : Pg), i + d = 15 → d < f → (∀ k, k < i → g k = X 76 k) → ∃ g' : Pg, (∀ k, k < 15 → g' k = X 76 k) ∧ l_Mod_begin_2 kx f (nI i) (setM X 77 g) Y = kx (nI 15) (setM X 77 g') Y := by
  intro d
  induction d with
  | zero =>
    intro f i g h hf hgi
    obtain ⟨f, rfl⟩ : ∃ f', f = f' + 1 := ⟨f - 1, by omega⟩
    have e : i = 15 := by omega
    subst e
    refine ⟨g, hgi, ?_⟩
    rw [l_Mod_begin_2, if_pos (show (15 : Int32) ≤ nI 15 by decide)]
  | succ d ih =>
    intro f i g h hf hgi
    obtain ⟨f, rfl⟩ : ∃ f', f = f' + 1 := ⟨f - 1, by omega⟩
    obtain ⟨g', h1, h2⟩ := ih f (i + 1) (upd g i (X 76 i)) (by omega) (by omega) (fun k hk => by
      by_cases hki : k = i
      · subst hki; rw [upd_s]
      · rw [upd_n _ _ hki]; exact hgi k (by omega))
    refine ⟨g', h1, ?_⟩
    rw [l_Mod_begin_2, if_neg (show ¬ (15 : Int32) ≤ nI i from nI_ge (b := 15) (by omega) (by omega)), ixb_nI (by omega) (by decide), gd_t, wr_t, cl_nI (by omega), setM_o (by decide : 76 ≠ 77), upM _ (by omega), nI_up]
    exact h2
theorem m_begin : f_Mod_begin X Y = rV (setM X 77 (X 76)) Y := by
  unfold f_Mod_begin
  obtain ⟨g', h1, h2⟩ := ml_begin (X := X) (Y := Y) (fun w2 X3 Y4 => (rV X3 Y4)) 15 256 0 (X 77) (by omega) (by omega) (fun k hk => absurd hk (by omega))
  rw [setM_id (fun _ _ => rfl)] at h2
  rw [show (0 : Int32) = nI 0 from rfl, h2]
  congr 1
  exact setM_ext h1
end ML
def okZ (n : Nat) (g : Pg) : Prop := ∀ k, n ≤ k → k < 6 → g k = 0 ∧ g (6 + k) = 0
def gp (n T : Nat) (g : Pg) : Prop := okG g ∧ okZ n g ∧ ∃ t, t ≤ T ∧ g 14 = nI t
def Rg (n m : Nat) (X : HI) : Prop := EC n m (X 72) (X 73) X ∧ X 70 4 = nI n ∧ X 70 6 = nI m ∧ okS4 (X 73)
def Rt (X : HI) : Prop := ∃ len, len ≤ 36 ∧ X 1 1 = nI len ∧ X 70 2 = nI len ∧ ∀ k, k < len → X 2 k = X 71 k ∧ 0 ≤ (X 71 k).toInt ∧ (X 71 k).toInt ≤ 255
def Rp (n T : Nat) (X : HI) : Prop := (∀ k, k < 15 → pgC X 16 k = X 76 k) ∧ gp n T (X 76)
def Rh (n T : Nat) (X : HI) : Prop := ∃ c nx, c ≤ 14 ∧ nx < 14 ∧ X 6 2 = nI c ∧ X 6 1 = nI nx ∧ X 70 15 = nI c ∧ ∀ j, j < c → (∀ k, k < 15 → pgC X (28 + 3 * ((nx + 14 - c + j) % 14)) k = X 78 (15 * j + k)) ∧ gp n T (fun k => X 78 (15 * j + k))
def Rk (n T : Nat) (X : HI) : Prop := ∀ s, s < 2 → X 13 s = X 80 s ∧ (X 80 s = 0 ∨ X 80 s = 1) ∧ (X 80 s = 1 → (∀ k, k < 15 → pgC X (22 + 3 * s) k = X 79 (15 * s + k)) ∧ gp n T (fun k => X 79 (15 * s + k)))
def Rf (X : HI) : Prop := ∃ c, c ≤ 6 ∧ X 8 3 = nI c ∧ X 70 18 = nI c ∧ ∀ i, i < c → X 9 i = X 81 i ∧ X 10 i = X 82 i ∧ X 11 i = X 83 i ∧ (0 ≤ (X 81 i).toInt ∧ (X 81 i).toInt ≤ 9) ∧ (X 83 i = 0 ∨ X 83 i = 1)
def Rel (T : Nat) (X : HI) (Y : HL) : Prop := ∃ n m, Rg n m X ∧ Rt X ∧ Rp n T X ∧ Rh n T X ∧ Rk n T X ∧ Rf X ∧ Y 0 = Y 70
theorem Rg.em {n m : Nat} {X : HI} (h : Rg n m X) : EM n m (X 72) (X 73) X := ⟨h.2.1, h.2.2.1, h.1.2.2.1, h.1.2.2.2.1, fun _ _ => rfl, fun _ _ => rfl⟩
/-- cells that nobody asks between two calls -/
def scr (b : Nat) : Bool := b == 14 || b == 15 || b == 19 || b == 20 || b == 21 || b == 74 || b == 75 || b == 77 || b == 84 || b == 85
def smX (X X' : HI) : Prop := (∀ b, scr b = false → b ≠ 70 → X' b = X b) ∧ X' 70 2 = X 70 2 ∧ X' 70 4 = X 70 4 ∧ X' 70 6 = X 70 6 ∧ X' 70 15 = X 70 15 ∧ X' 70 18 = X 70 18
theorem smX.rf (X : HI) : smX X X := ⟨fun _ _ _ => rfl, rfl, rfl, rfl, rfl, rfl⟩
theorem smX.tr {X X1 X2 : HI} (h : smX X X1) (h2 : smX X1 X2) : smX X X2 := by
  obtain ⟨a1, a2, a3, a4, a5, a6⟩ := h
  obtain ⟨b1, b2, b3, b4, b5, b6⟩ := h2
  exact ⟨fun b hb h7 => by rw [b1 b hb h7, a1 b hb h7], by rw [b2, a2], by rw [b3, a3], by rw [b4, a4], by rw [b5, a5], by rw [b6, a6]⟩
theorem smX_scr {X X' : HI} (h : ∀ b, scr b = false → X' b = X b) : smX X X' := by
  have e := h 70 (by decide)
  exact ⟨fun b hb _ => h b hb, by rw [e], by rw [e], by rw [e], by rw [e], by rw [e]⟩
theorem smX_C (X : HI) (g : Pg) : smX X (setC X 19 g) := smX_scr (fun b hb => setC_o (by intro e; subst e; exact absurd hb (by decide)) (by intro e; subst e; exact absurd hb (by decide)) (by intro e; subst e; exact absurd hb (by decide)))
theorem smX_M (X : HI) (g : Pg) : smX X (setM X 77 g) := smX_scr (fun b hb => setM_o (by intro e; subst e; exact absurd hb (by decide)))
theorem smX_up (X : HI) {a : Nat} (k : Nat) (v : Int32) (ha : scr a = true) : smX X (up X a k v) := smX_scr (fun b hb => up_ne X k v (by intro e; subst e; rw [ha] at hb; cases hb))
theorem smX_70 (X : HI) (k : Nat) (v : Int32) (h : k ≠ 2 ∧ k ≠ 4 ∧ k ≠ 6 ∧ k ≠ 15 ∧ k ≠ 18) : smX X (up X 70 k v) := by
  refine ⟨fun b _ h7 => up_ne X k v h7, ?_, ?_, ?_, ?_, ?_⟩ <;> rw [up_self, upd_n _ _ (by omega)]
theorem pgC_row {X X' : HI} {p : Nat} (h0 : X' p = X p) (h1 : X' (p + 1) = X (p + 1)) (h2 : X' (p + 2) = X (p + 2)) : pgC X' p = pgC X p := by
  funext k
  unfold pgC
  rw [h0, h1, h2]
theorem scr_ring {p : Nat} (h1 : 22 ≤ p) (h2 : p < 70) : scr p = false := by
  unfold scr
  simp only [Bool.or_eq_false_iff, beq_eq_false_iff_ne, ne_eq]
  omega
theorem Rel.same {T : Nat} {X X' : HI} {Y : HL} (h : Rel T X Y) (hs : smX X X') : Rel T X' Y := by
  obtain ⟨n, m, hg, ht, hp, hh, hk, hf, hy⟩ := h
  obtain ⟨a1, a2, a3, a4, a5, a6⟩ := hs
  have r : ∀ b, scr b = false → b ≠ 70 → X' b = X b := a1
  refine ⟨n, m, ?_, ?_, ?_, ?_, ?_, ?_, hy⟩
  · unfold Rg EC
    rw [r 72 (by decide) (by decide), r 73 (by decide) (by decide), r 3 (by decide) (by decide), r 4 (by decide) (by decide), r 5 (by decide) (by decide), a3, a4]
    exact hg
  · unfold Rt
    rw [r 1 (by decide) (by decide), r 2 (by decide) (by decide), r 71 (by decide) (by decide), a2]
    exact ht
  · unfold Rp
    rw [r 76 (by decide) (by decide), pgC_row (r 16 (by decide) (by decide)) (r 17 (by decide) (by decide)) (r 18 (by decide) (by decide))]
    exact hp
  · obtain ⟨c, nx, h1, h2, h3, h4, h5, h6⟩ := hh
    refine ⟨c, nx, h1, h2, by rw [r 6 (by decide) (by decide)]; exact h3, by rw [r 6 (by decide) (by decide)]; exact h4, by rw [a5]; exact h5, fun j hj => ?_⟩
    have hlt : (nx + 14 - c + j) % 14 < 14 := Nat.mod_lt _ (by decide)
    rw [r 78 (by decide) (by decide), pgC_row (r _ (scr_ring (by omega) (by omega)) (by omega)) (r _ (scr_ring (by omega) (by omega)) (by omega)) (r _ (scr_ring (by omega) (by omega)) (by omega))]
    exact h6 j hj
  · intro s hs2
    rw [r 13 (by decide) (by decide), r 80 (by decide) (by decide), r 79 (by decide) (by decide), pgC_row (r _ (scr_ring (by omega) (by omega)) (by omega)) (r _ (scr_ring (by omega) (by omega)) (by omega)) (r _ (scr_ring (by omega) (by omega)) (by omega))]
    exact hk s hs2
  · unfold Rf
    rw [r 8 (by decide) (by decide), r 9 (by decide) (by decide), r 10 (by decide) (by decide), r 11 (by decide) (by decide), r 81 (by decide) (by decide), r 82 (by decide) (by decide), r 83 (by decide) (by decide), a6]
    exact hf
theorem gp.mono {n T T' : Nat} {g : Pg} (h : gp n T g) (hT : T ≤ T') : gp n T' g := by
  obtain ⟨h1, h2, t, h3, h4⟩ := h
  exact ⟨h1, h2, t, by omega, h4⟩
theorem Rel.mono {T T' : Nat} {X : HI} {Y : HL} (h : Rel T X Y) (hT : T ≤ T') : Rel T' X Y := by
  obtain ⟨n, m, hg, ht, hp, hh, hk, hf, hy⟩ := h
  refine ⟨n, m, hg, ht, ⟨hp.1, hp.2.mono hT⟩, ?_, fun s hs => ⟨(hk s hs).1, (hk s hs).2.1, fun h1 => ⟨((hk s hs).2.2 h1).1, ((hk s hs).2.2 h1).2.mono hT⟩⟩, hf, hy⟩
  obtain ⟨c, nx, h1, h2, h3, h4, h5, h6⟩ := hh
  exact ⟨c, nx, h1, h2, h3, h4, h5, fun j hj => ⟨(h6 j hj).1, (h6 j hj).2.mono hT⟩⟩
/-- class and model answer alike, and what holds between them holds on -/
def Ok (fB fM : HI → HL → Option Out) : Prop := ∀ (T : Nat) (X : HI) (Y : HL), T < 1000 → Rel T X Y → ∃ r X1 Y1 X2 Y2, fB X Y = rI r X1 Y1 ∧ fM X1 Y1 = rI r X2 Y2 ∧ Rel (T + 1) X2 Y2
/-- for a call that asks only -/
theorem Ok.ask {fB fM : HI → HL → Option Out} (h : ∀ (T n m : Nat) (X : HI) (Y : HL), T < 1000 → Rel T X Y → Rg n m X → Rp n T X → ∃ r X1 X2, fB X Y = rI r X1 Y ∧ smX X X1 ∧ fM X1 Y = rI r X2 Y ∧ smX X1 X2) : Ok fB fM := by
  intro T X Y hT hR
  obtain ⟨n, m, hg, ht, hp, hrest⟩ := id hR
  obtain ⟨r, X1, X2, h1, h2, h3, h4⟩ := h T n m X Y hT hR hg hp
  exact ⟨r, X1, Y, X2, Y, h1, h3, ((hR.same h2).same h4).mono (by omega)⟩
