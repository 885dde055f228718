/-! the model's reader -/
theorem up_up (X : HI) (a k : Nat) (v w : Int32) : up (up X a k v) a k w = up X a k w := by
  funext b
  by_cases hb : b = a
  · subst hb
    rw [up_self, up_self, up_self]
    funext j
    by_cases hj : j = k
    · subst hj; rw [upd_s, upd_s]
    · rw [upd_n _ _ hj, upd_n _ _ hj, upd_n _ _ hj]
  · rw [up_ne _ _ _ hb, up_ne _ _ _ hb, up_ne _ _ _ hb]
theorem ft_48 {x a b A B : Int32} (h1 : 0 ≤ x.toInt) (h2 : x.toInt ≤ 255) (hA : A.toInt = a.toInt + 48) (hB : B.toInt = b.toInt + 48) : ft x A B = ft (x - 48) a b := by
  have e : (x - 48).toInt = x.toInt - 48 := by
    have h48 : (48 : Int32).toInt = 48 := by decide
    rw [i_sub (by rw [h48]; omega) (by rw [h48]; omega), h48]
  unfold ft
  rw [show decide (x < A) = decide (x - 48 < a) from decide_eq_decide.mpr (by rw [i_lt, i_lt, e, hA]; omega), show decide (B < x) = decide (b < x - 48) from decide_eq_decide.mpr (by rw [i_lt, i_lt, e, hB]; omega)]
def lok (l : Pg) (L : Nat) : Prop := L ≤ 36 ∧ ∀ k, k < L → 0 ≤ (l k).toInt ∧ (l k).toInt ≤ 255
def RMS (l : Pg) (L : Nat) (X0 : HI) (σ : St) (i : Nat) (X : HI) : Prop := smX X0 X ∧ X0 70 2 = nI L ∧ (∀ k, k < L → X0 71 k = l k) ∧ X 70 3 = nI i ∧ X 70 8 = nI σ.p ∧ X 70 10 = nI σ.q ∧ (∀ j, j < σ.p → X 74 (3 * j) = σ.kd j ∧ X 74 (3 * j + 1) = σ.wa j ∧ X 74 (3 * j + 2) = σ.sa j) ∧ (∀ j, j < σ.q → X 75 j = σ.sk j)
theorem RMS.go {l : Pg} {L : Nat} {X0 : HI} {σ : St} {i : Nat} {X : HI} (h : RMS l L X0 σ i X) (j : Nat) : RMS l L X0 σ j (up X 70 3 (nI j)) := by
  obtain ⟨h1, h2, h3, h4, h5, h6, h7, h8⟩ := h
  refine ⟨h1.tr (smX_70 X 3 _ (by decide)), h2, h3, up_at _ _ _ _, ?_, ?_, ?_, ?_⟩
  · rw [up_an _ _ _ _ (by decide)]; exact h5
  · rw [up_an _ _ _ _ (by decide)]; exact h6
  · intro j hj; rw [up_ne _ _ _ (by decide)]; exact h7 j hj
  · intro j hj; rw [up_ne _ _ _ (by decide)]; exact h8 j hj
theorem m_figY {l : Pg} {L : Nat} {X0 : HI} {σ : St} {i : Nat} {X : HI} {Y : HL} {A B a b : Int32} (hl : lok l L) (h : RMS l L X0 σ i X) (hA : A.toInt = a.toInt + 48) (hB : B.toInt = b.toInt + 48) (hd : dgB l L i A B = true) : f_Mod_figure a b X Y = rI (l i - 48) (up X 70 3 (nI (i + 1))) Y := by
  obtain ⟨h1, h2, h3, h4, h5, h6, h7, h8⟩ := h
  obtain ⟨d1, d2⟩ := dg_y hd
  obtain ⟨l36, lb⟩ := hl
  have e2 : X 70 2 = nI L := h1.2.1.trans h2
  have e71 : X 71 = X0 71 := h1.1 71 (by decide) (by decide)
  rw [ft_48 (lb i d1).1 (lb i d1).2 hA hB] at d2
  unfold f_Mod_figure
  rw [h4, e2, if_neg (fun z => by have := congrArg Int32.toInt z; rw [nI_toInt (by omega), nI_toInt (by omega)] at this; omega), ixb_nI (by omega) (by decide), gd_t, cl_nI (by omega), e71, h3 i d1, m_inY d2, bi_rI, if_neg n10, h4, lh_e, nI_up, up_at, show nI (i + 1) - (1 : Int32) = nI i from pk_sub (a := i + 1) (b := 1) (by omega), ixb_nI (by omega) (by decide), gd_t, cl_nI (by omega), up_ne _ _ _ (by decide), e71, h3 i d1]
theorem m_figN {l : Pg} {L : Nat} {X0 : HI} {σ : St} {i : Nat} {X : HI} {Y : HL} {A B a b : Int32} (hl : lok l L) (h : RMS l L X0 σ i X) (hi : i ≤ L) (hA : A.toInt = a.toInt + 48) (hB : B.toInt = b.toInt + 48) (hd : dgB l L i A B = false) : f_Mod_figure a b X Y = rI (-9) X Y := by
  obtain ⟨h1, h2, h3, h4, h5, h6, h7, h8⟩ := h
  obtain ⟨l36, lb⟩ := hl
  have e2 : X 70 2 = nI L := h1.2.1.trans h2
  have e71 : X 71 = X0 71 := h1.1 71 (by decide) (by decide)
  unfold f_Mod_figure
  rcases dg_n hd with d1 | ⟨d1, d2⟩
  · rw [h4, e2, if_pos (by rw [show i = L by omega])]
  · rw [ft_48 (lb i d1).1 (lb i d1).2 hA hB] at d2
    rw [h4, e2, if_neg (fun z => by have := congrArg Int32.toInt z; rw [nI_toInt (by omega), nI_toInt (by omega)] at this; omega), ixb_nI (by omega) (by decide), gd_t, cl_nI (by omega), e71, h3 i d1, m_inN d2, bi_rI, if_pos z00]
theorem fig_n9 {l : Pg} {L i : Nat} {A B : Int32} (hl : lok l L) (hA : 48 ≤ A.toInt) (hd : dgB l L i A B = true) : ¬ l i - 48 = (-9 : Int32) := by
  obtain ⟨d1, d2⟩ := dg_y hd
  have lb := hl.2 i d1
  unfold ft at d2
  have hlt : ¬ l i < A := by
    intro z
    rw [decide_eq_true z] at d2
    cases d2
  rw [i_lt] at hlt
  intro z
  have e := congrArg Int32.toInt z
  have h48 : (48 : Int32).toInt = 48 := by decide
  rw [i_sub (by rw [h48]; omega) (by rw [h48]; omega), h48, show (-9 : Int32).toInt = -9 from by decide] at e
  omega
theorem t48 : (48 : Int32).toInt = (0 : Int32).toInt + 48 := by decide
theorem t49 : (49 : Int32).toInt = (1 : Int32).toInt + 48 := by decide
theorem t51 : (51 : Int32).toInt = (3 : Int32).toInt + 48 := by decide
theorem t52 : (52 : Int32).toInt = (4 : Int32).toInt + 48 := by decide
theorem t54 : (54 : Int32).toInt = (6 : Int32).toInt + 48 := by decide
theorem t57 : (57 : Int32).toInt = (9 : Int32).toInt + 48 := by decide
theorem m_onePanY {l : Pg} {L : Nat} {X0 : HI} {σ : St} {i : Nat} {X : HI} {Y : HL} (hl : lok l L) (h : RMS l L X0 σ (i + 1) X) (hp : σ.p < 6) (d1 : dgB l L (i + 1) 48 51 = true) (d2 : dgB l L (i + 2) 48 54 = true) (d3 : dgB l L (i + 3) 48 57 = true) : ∃ X', RMS l L X0 (adP σ (l (i + 1) - 48) (l (i + 2) - 48) (10 * (l (i + 3) - 48))) (i + 4) X' ∧ f_Mod_readOnePan X Y = rI 1 X' Y := by
  have g1 := h.go (i + 2)
  have g2 := g1.go (i + 3)
  have g3 := g2.go (i + 4)
  have e1 := m_figY (Y := Y) hl h t48 t51 d1
  have e2 := m_figY (Y := Y) hl g1 t48 t54 d2
  have e3 := m_figY (Y := Y) hl g2 t48 t57 d3
  have n1 := fig_n9 hl (by decide) d1
  have n2 := fig_n9 hl (by decide) d2
  have n3 := fig_n9 hl (by decide) d3
  generalize up (up (up X 70 3 (nI (i + 2))) 70 3 (nI (i + 3))) 70 3 (nI (i + 4)) = Z at g3 e3
  generalize l (i + 1) - 48 = k at *
  generalize l (i + 2) - 48 = w at *
  generalize l (i + 3) - 48 = s at *
  obtain ⟨h1, h2, h3, h4, h5, h6, h7, h8⟩ := g3
  have f5 : (up Z 74 (3 * σ.p) k) 70 8 = nI σ.p := by rw [up_ne _ _ _ (by decide)]; exact h5
  have f6 : (up (up Z 74 (3 * σ.p) k) 74 (3 * σ.p + 1) w) 70 8 = nI σ.p := by rw [up_ne _ _ _ (by decide)]; exact f5
  have f7 : (up (up (up Z 74 (3 * σ.p) k) 74 (3 * σ.p + 1) w) 74 (3 * σ.p + 2) (10 * s)) 70 8 = nI σ.p := by rw [up_ne _ _ _ (by decide)]; exact f6
  have i3 : (3 : Int32) * nI σ.p = nI (3 * σ.p) := pk_mul 3 σ.p
  refine ⟨up (up (up (up Z 74 (3 * σ.p) k) 74 (3 * σ.p + 1) w) 74 (3 * σ.p + 2) (10 * s)) 70 8 (nI (σ.p + 1)), ?_, ?_⟩
  · refine ⟨(((h1.tr (smX_up _ _ _ (by decide))).tr (smX_up _ _ _ (by decide))).tr (smX_up _ _ _ (by decide))).tr (smX_70 _ 8 _ (by decide)), h2, h3, ?_, up_at _ _ _ _, ?_, ?_, ?_⟩
    · rw [up_an _ _ _ _ (by decide), up_ne _ _ _ (by decide), up_ne _ _ _ (by decide), up_ne _ _ _ (by decide)]; exact h4
    · rw [up_an _ _ _ _ (by decide), up_ne _ _ _ (by decide), up_ne _ _ _ (by decide), up_ne _ _ _ (by decide)]; exact h6
    · intro j hj
      have hj' : j < σ.p + 1 := hj
      rw [up_ne _ _ _ (show (74 : Nat) ≠ 70 by decide)]
      show _ = upd σ.kd σ.p k j ∧ _ = upd σ.wa σ.p w j ∧ _ = upd σ.sa σ.p (10 * s) j
      by_cases hjp : j = σ.p
      · subst hjp
        rw [upd_s, upd_s, upd_s]
        refine ⟨?_, ?_, ?_⟩
        · rw [up_an _ _ _ _ (by omega), up_an _ _ _ _ (by omega), up_at]
        · rw [up_an _ _ _ _ (by omega), up_at]
        · rw [up_at]
      · rw [upd_n _ _ hjp, upd_n _ _ hjp, upd_n _ _ hjp]
        obtain ⟨a1, a2, a3⟩ := h7 j (by omega)
        refine ⟨?_, ?_, ?_⟩
        · rw [up_an _ _ _ _ (by omega), up_an _ _ _ _ (by omega), up_an _ _ _ _ (by omega)]; exact a1
        · rw [up_an _ _ _ _ (by omega), up_an _ _ _ _ (by omega), up_an _ _ _ _ (by omega)]; exact a2
        · rw [up_an _ _ _ _ (by omega), up_an _ _ _ _ (by omega), up_an _ _ _ _ (by omega)]; exact a3
    · intro j hj
      rw [up_ne _ _ _ (show (75 : Nat) ≠ 70 by decide), up_ne _ _ _ (by decide), up_ne _ _ _ (by decide), up_ne _ _ _ (by decide)]
      exact h8 j hj
  · unfold f_Mod_readOnePan b_Mod_readOnePan_25 b_Mod_readOnePan_44
    rw [e1, bi_rI, if_neg n1, e2, bi_rI, if_neg n2, e3, bi_rI, if_neg n3, h5, i3, ixb_nI (by omega) (by decide), wr_t, cl_nI (by omega), f5, i3, show nI (3 * σ.p) + (1 : Int32) = nI (3 * σ.p + 1) from nI_up _, ixb_nI (by omega) (by decide), wr_t, cl_nI (by omega), f6, i3, show nI (3 * σ.p) + (2 : Int32) = nI (3 * σ.p + 2) from nI_add _ 2, ixb_nI (by omega) (by decide), wr_t, cl_nI (by omega), f7, lh_e, nI_up]
theorem m_onePanN {l : Pg} {L : Nat} {X0 : HI} {σ : St} {i : Nat} {X : HI} {Y : HL} (hl : lok l L) (h : RMS l L X0 σ (i + 1) X) (hi : i < L) : 
    (dgB l L (i + 1) 48 51 = false → ∃ X', RMS l L X0 σ (i + 1) X' ∧ f_Mod_readOnePan X Y = rI 0 X' Y) ∧
    (dgB l L (i + 1) 48 51 = true → dgB l L (i + 2) 48 54 = false → ∃ X', RMS l L X0 σ (i + 2) X' ∧ f_Mod_readOnePan X Y = rI 0 X' Y) ∧
    (dgB l L (i + 1) 48 51 = true → dgB l L (i + 2) 48 54 = true → dgB l L (i + 3) 48 57 = false → ∃ X', RMS l L X0 σ (i + 3) X' ∧ f_Mod_readOnePan X Y = rI 0 X' Y) := by
  refine ⟨?_, ?_, ?_⟩
  · intro d1
    refine ⟨X, h, ?_⟩
    unfold f_Mod_readOnePan b_Mod_readOnePan_25 b_Mod_readOnePan_44
    rw [m_figN hl h (by omega) t48 t51 d1, bi_rI, if_pos rfl, if_pos rfl, if_pos rfl]
  · intro d1 d2
    have g1 := h.go (i + 2)
    have y1 := (dg_y d1).1
    refine ⟨_, g1, ?_⟩
    unfold f_Mod_readOnePan b_Mod_readOnePan_25 b_Mod_readOnePan_44
    rw [m_figY (Y := Y) hl h t48 t51 d1, bi_rI, if_neg (fig_n9 hl (by decide) d1), m_figN hl g1 (by omega) t48 t54 d2, bi_rI, if_pos rfl, if_pos rfl]
  · intro d1 d2 d3
    have g1 := h.go (i + 2)
    have g2 := g1.go (i + 3)
    have y1 := (dg_y d2).1
    refine ⟨_, g2, ?_⟩
    unfold f_Mod_readOnePan b_Mod_readOnePan_25 b_Mod_readOnePan_44
    rw [m_figY (Y := Y) hl h t48 t51 d1, bi_rI, if_neg (fig_n9 hl (by decide) d1), m_figY (Y := Y) hl g1 t48 t54 d2, bi_rI, if_neg (fig_n9 hl (by decide) d2), m_figN hl g2 (by omega) t48 t57 d3, bi_rI, if_pos rfl]
theorem m_sky41 {l : Pg} {L : Nat} {X0 : HI} {σ : St} {i : Nat} {X : HI} {Y : HL} (h : RMS l L X0 σ i X) (hq : σ.q < 5) (v : Int32) : ∃ X', RMS l L X0 (adS σ v) i X' ∧ b_Mod_readOneSky_41 v (X 70 10) X Y = rI 1 X' Y := by
  obtain ⟨h1, h2, h3, h4, h5, h6, h7, h8⟩ := h
  refine ⟨up (up X 75 σ.q v) 70 10 (nI (σ.q + 1)), ⟨(h1.tr (smX_up _ _ _ (by decide))).tr (smX_70 _ 10 _ (by decide)), h2, h3, ?_, ?_, up_at _ _ _ _, ?_, ?_⟩, ?_⟩
  · rw [up_an _ _ _ _ (by decide), up_ne _ _ _ (by decide)]; exact h4
  · rw [up_an _ _ _ _ (by decide), up_ne _ _ _ (by decide)]; exact h5
  · intro j hj
    rw [up_ne _ _ _ (show (74 : Nat) ≠ 70 by decide), up_ne _ _ _ (by decide)]
    exact h7 j hj
  · intro j hj
    have hj' : j < σ.q + 1 := hj
    rw [up_ne _ _ _ (show (75 : Nat) ≠ 70 by decide)]
    show _ = upd σ.sk σ.q v j
    by_cases hjq : j = σ.q
    · subst hjq; rw [up_at, upd_s]
    · rw [up_an _ _ _ _ hjq, upd_n _ _ hjq]; exact h8 j (by omega)
  · unfold b_Mod_readOneSky_41
    rw [h6, ixb_nI (by omega) (by decide), wr_t, cl_nI (by omega), lh_e, up_ne _ _ _ (by decide), h6, nI_up]
theorem m_oneSky {l : Pg} {L : Nat} {X0 : HI} {σ : St} {i : Nat} {X : HI} {Y : HL} (hl : lok l L) (h : RMS l L X0 σ (i + 1) X) (hi : i < L) (hq : σ.q < 5) :
    (dgB l L (i + 1) 48 52 = true → ∃ X', RMS l L X0 (adS σ (l (i + 1) - 48)) (i + 2) X' ∧ f_Mod_readOneSky 0 X Y = rI 1 X' Y) ∧
    (dgB l L (i + 1) 48 52 = false → ∃ X', RMS l L X0 σ (i + 1) X' ∧ f_Mod_readOneSky 0 X Y = rI 0 X' Y) ∧
    (dgB l L (i + 1) 49 52 = true → ∃ X', RMS l L X0 (adS σ (-(l (i + 1) - 48))) (i + 2) X' ∧ f_Mod_readOneSky 1 X Y = rI 1 X' Y) ∧
    (dgB l L (i + 1) 49 52 = false → ∃ X', RMS l L X0 σ (i + 1) X' ∧ f_Mod_readOneSky 1 X Y = rI 0 X' Y) := by
  refine ⟨?_, ?_, ?_, ?_⟩
  · intro d
    obtain ⟨X', q1, q2⟩ := m_sky41 (Y := Y) (h.go (i + 2)) hq (l (i + 1) - 48)
    refine ⟨X', q1, ?_⟩
    unfold f_Mod_readOneSky b_Mod_readOneSky_10
    rw [if_pos z00, m_figY (Y := Y) hl h t48 t52 d, bi_rI, if_neg (fig_n9 hl (by decide) d), if_pos z00]
    exact q2
  · intro d
    refine ⟨X, h, ?_⟩
    unfold f_Mod_readOneSky b_Mod_readOneSky_10
    rw [if_pos z00, m_figN hl h (by omega) t48 t52 d, bi_rI, if_pos rfl]
  · intro d
    obtain ⟨X', q1, q2⟩ := m_sky41 (Y := Y) (h.go (i + 2)) hq (-(l (i + 1) - 48))
    refine ⟨X', q1, ?_⟩
    unfold f_Mod_readOneSky b_Mod_readOneSky_10
    rw [if_neg n10, m_figY (Y := Y) hl h t49 t52 d, bi_rI, if_neg (fig_n9 hl (by decide) d), if_neg n10]
    exact q2
  · intro d
    refine ⟨X, h, ?_⟩
    unfold f_Mod_readOneSky b_Mod_readOneSky_10
    rw [if_neg n10, m_figN hl h (by omega) t49 t52 d, bi_rI, if_pos rfl]
theorem m_readThing {l : Pg} {L : Nat} {X0 : HI} {σ : St} {i : Nat} {X : HI} {Y : HL} (hl : lok l L) (h : RMS l L X0 σ i X) (hi : i < L) (hp : σ.p ≤ 6) (hq : σ.q ≤ 5) : ∀ pos o, stp l L i σ = (pos, o) → match o with
    | none => ∃ X', RMS l L X0 σ pos X' ∧ f_Mod_readThing X Y = rI 0 X' Y
    | some σ' => ∃ X', RMS l L X0 σ' pos X' ∧ f_Mod_readThing X Y = rI 1 X' Y := by
  intro pos o hs
  have l36 := hl.1
  obtain ⟨h1, h2, h3, h4, h5, h6, h7, h8⟩ := id h
  have e71 : X 71 = X0 71 := h1.1 71 (by decide) (by decide)
  have g1 := h.go (i + 1)
  have back : b_Mod_readThing_76 (up X 70 3 (nI (i + 1))) Y = rI 0 (up X 70 3 (nI i)) Y := by
    unfold b_Mod_readThing_76
    rw [up_at, show nI (i + 1) - (1 : Int32) = nI i from pk_sub (a := i + 1) (b := 1) (by omega), lh_e, up_up]
  have hback := h.go i
  have k8 := g1.2.2.2.2.1
  have k10 := g1.2.2.2.2.2.1
  have start : f_Mod_readThing X Y = (if l i = (78 : Int32) then
    (if (6 : Int32) ≤ nI σ.p then
    (b_Mod_readThing_40 (l i) (up X 70 3 (nI (i + 1))) Y)
    else
    bi (f_Mod_readOnePan (up X 70 3 (nI (i + 1))) Y) (fun r9 X7 Y8 =>
    (gd (zb r9) (rI r9 X7 Y8))))
    else
    (b_Mod_readThing_40 (l i) (up X 70 3 (nI (i + 1))) Y)) := by
    unfold f_Mod_readThing
    rw [h4, ixb_nI (by omega) (by decide), gd_t, cl_nI (by omega), e71, h3 i hi, lt_e, lh_e, nI_up, k8]
  rw [start]
  unfold stp at hs
  by_cases hN : l i = 78
  · rw [if_pos hN] at hs ⊢
    by_cases h6' : σ.p < 6
    · rw [if_pos h6'] at hs
      rw [if_neg (show ¬ (6 : Int32) ≤ nI σ.p from nI_ge (b := 6) h6' (by omega))]
      obtain ⟨q1, q2, q3⟩ := m_onePanN (Y := Y) hl g1 hi
      cases d1 : dgB l L (i + 1) 48 51 with
      | false =>
        rw [d1, if_neg (show ¬ false = true by decide)] at hs
        obtain ⟨rfl, rfl⟩ := Prod.mk.inj hs
        obtain ⟨X', a1, a2⟩ := q1 d1
        exact ⟨X', a1, by rw [a2, bi_rI, zb_0, gd_t]⟩
      | true =>
        rw [d1, if_pos rfl] at hs
        cases d2 : dgB l L (i + 2) 48 54 with
        | false =>
          rw [d2, if_neg (show ¬ false = true by decide)] at hs
          obtain ⟨rfl, rfl⟩ := Prod.mk.inj hs
          obtain ⟨X', a1, a2⟩ := q2 d1 d2
          exact ⟨X', a1, by rw [a2, bi_rI, zb_0, gd_t]⟩
        | true =>
          rw [d2, if_pos rfl] at hs
          cases d3 : dgB l L (i + 3) 48 57 with
          | false =>
            rw [d3, if_neg (show ¬ false = true by decide)] at hs
            obtain ⟨rfl, rfl⟩ := Prod.mk.inj hs
            obtain ⟨X', a1, a2⟩ := q3 d1 d2 d3
            exact ⟨X', a1, by rw [a2, bi_rI, zb_0, gd_t]⟩
          | true =>
            rw [d3, if_pos rfl] at hs
            obtain ⟨rfl, rfl⟩ := Prod.mk.inj hs
            obtain ⟨X', a1, a2⟩ := m_onePanY (Y := Y) hl g1 h6' d1 d2 d3
            exact ⟨X', a1, by rw [a2, bi_rI, zb_1, gd_t]⟩
    · rw [if_neg h6'] at hs
      obtain ⟨rfl, rfl⟩ := Prod.mk.inj hs
      rw [if_pos (show (6 : Int32) ≤ nI σ.p from nI_le (a := 6) (by omega) (by omega))]
      refine ⟨_, hback, ?_⟩
      unfold b_Mod_readThing_40
      rw [hN, if_neg (show ¬ (78 : Int32) = 83 by decide), if_neg (show ¬ (78 : Int32) = 82 by decide)]
      exact back
  · rw [if_neg hN] at hs ⊢
    unfold b_Mod_readThing_40 b_Mod_readThing_52 b_Mod_readThing_72
    rw [k10]
    by_cases hR : l i = 82
    · rw [if_pos hR] at hs
      rw [if_neg (show ¬ l i = 83 by rw [hR]; decide), if_pos hR, if_pos hR]
      by_cases h5' : σ.q < 5
      · rw [if_pos h5'] at hs
        rw [if_neg (show ¬ (5 : Int32) ≤ nI σ.q from nI_ge (b := 5) h5' (by omega))]
        obtain ⟨q1, q2, q3, q4⟩ := m_oneSky (Y := Y) hl g1 hi h5'
        cases d1 : dgB l L (i + 1) 49 52 with
        | false =>
          rw [d1, if_neg (show ¬ false = true by decide)] at hs
          obtain ⟨rfl, rfl⟩ := Prod.mk.inj hs
          obtain ⟨X', a1, a2⟩ := q4 d1
          exact ⟨X', a1, by rw [a2, bi_rI, zb_0, gd_t]⟩
        | true =>
          rw [d1, if_pos rfl] at hs
          obtain ⟨rfl, rfl⟩ := Prod.mk.inj hs
          obtain ⟨X', a1, a2⟩ := q3 d1
          exact ⟨X', a1, by rw [a2, bi_rI, zb_1, gd_t]⟩
      · rw [if_neg h5'] at hs
        obtain ⟨rfl, rfl⟩ := Prod.mk.inj hs
        rw [if_pos (show (5 : Int32) ≤ nI σ.q from nI_le (a := 5) (by omega) (by omega))]
        exact ⟨_, hback, back⟩
    · rw [if_neg hR] at hs
      by_cases hS : l i = 83
      · rw [if_pos hS] at hs
        rw [if_pos hS, if_neg hR]
        by_cases h5' : σ.q < 5
        · rw [if_pos h5'] at hs
          rw [if_neg (show ¬ (5 : Int32) ≤ nI σ.q from nI_ge (b := 5) h5' (by omega))]
          obtain ⟨q1, q2, q3, q4⟩ := m_oneSky (Y := Y) hl g1 hi h5'
          cases d1 : dgB l L (i + 1) 48 52 with
          | false =>
            rw [d1, if_neg (show ¬ false = true by decide)] at hs
            obtain ⟨rfl, rfl⟩ := Prod.mk.inj hs
            obtain ⟨X', a1, a2⟩ := q2 d1
            exact ⟨X', a1, by rw [a2, bi_rI, zb_0, gd_t]⟩
          | true =>
            rw [d1, if_pos rfl] at hs
            obtain ⟨rfl, rfl⟩ := Prod.mk.inj hs
            obtain ⟨X', a1, a2⟩ := q1 d1
            exact ⟨X', a1, by rw [a2, bi_rI, zb_1, gd_t]⟩
        · rw [if_neg h5'] at hs
          obtain ⟨rfl, rfl⟩ := Prod.mk.inj hs
          rw [if_pos (show (5 : Int32) ≤ nI σ.q from nI_le (a := 5) (by omega) (by omega))]
          exact ⟨_, hback, back⟩
      · rw [if_neg hS] at hs
        obtain ⟨rfl, rfl⟩ := Prod.mk.inj hs
        rw [if_neg hS, if_neg hR]
        exact ⟨_, hback, back⟩
