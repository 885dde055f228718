/-! marsh -/
theorem hasB_0 (k : Nat) : hasB 0 k = false := by
  unfold hasB
  rw [Int32.zero_shiftRight, show ((0 : Int32) &&& 1) = 0 from by decide]
  decide
theorem s_clear16 {X : HI} {Y : HL} : f_Pan_clear 16 X Y = rV (setC X 16 (fun _ => 0)) Y := by
  have e := s_empty (X := X) (Y := Y) (p := 16) (g := pgC X 16) 0
  rw [setC_self] at e
  unfold f_Pan_clear
  rw [e, bv_rV, lh_e, upC_3, lh_e, upC_4, lh_e, upC_5]
  have z : ∀ i k, k < i → i ≤ 6 → emP (pgC X 16) 0 i k = 0 ∧ emP (pgC X 16) 0 i (6 + k) = 0 := by
    intro i
    induction i with
    | zero => intro k h; omega
    | succ i ih =>
      intro k hk hi
      show (if hasB 0 i then emP (pgC X 16) 0 i else upd (upd (emP (pgC X 16) 0 i) i 0) (6 + i) 0) k = 0 ∧ (if hasB 0 i then emP (pgC X 16) 0 i else upd (upd (emP (pgC X 16) 0 i) i 0) (6 + i) 0) (6 + k) = 0
      rw [hasB_0, if_neg (show ¬ false = true by decide)]
      by_cases hki : k = i
      · subst hki
        rw [upd_n _ _ (by omega), upd_s, upd_s]
        exact ⟨rfl, rfl⟩
      · rw [upd_n _ _ (by omega), upd_n _ _ hki, upd_n _ _ (by omega), upd_n _ _ (by omega)]
        exact ih k (by omega) (by omega)
  rw [setC_ext (h := fun _ => 0)]
  intro k hk
  by_cases h14 : k = 14
  · subst h14; rw [upd_s]
  · rw [upd_n _ _ h14]
    by_cases h13 : k = 13
    · subst h13; rw [upd_s]
    · rw [upd_n _ _ h13]
      by_cases h12 : k = 12
      · subst h12; rw [upd_s]
      · rw [upd_n _ _ h12]
        by_cases h6 : k < 6
        · exact (z 6 k h6 (by omega)).1
        · have := (z 6 (k - 6) (by omega) (by omega)).2
          rw [show 6 + (k - 6) = k by omega] at this
          exact this
theorem l_marsh39 {X : HI} {Y : HL} (kx : Int32 → HI → HL → Option Out) : l_Bri_marsh_39 kx 256 0 X Y = kx 2 (up (up X 13 0 0) 13 1 0) Y := by
  rw [show (256 : Nat) = 253 + 1 + 1 + 1 from rfl, l_Bri_marsh_39, if_neg (show ¬ (2 : Int32) ≤ 0 by decide), show ixb (0 : Int32) 2 = true from by decide, wr_t, show (0 : Int32).toNatClampNeg = 0 from by decide, show (0 : Int32) + 1 = 1 from by decide, l_Bri_marsh_39, if_neg (show ¬ (2 : Int32) ≤ 1 by decide), show ixb (1 : Int32) 2 = true from by decide, wr_t, show (1 : Int32).toNatClampNeg = 1 from by decide, show (1 : Int32) + 1 = 2 from by decide, l_Bri_marsh_39, if_pos (show (2 : Int32) ≤ 2 by decide)]
  rfl
/-- the class's half -/
theorem c_marsh {X : HI} {Y : HL} {L : Nat} {l : Pg} {σ : St} (h36 : L ≤ 36) (hL : X 1 1 = nI L) (hl : ∀ k, k < L → X 2 k = l k) (hp : σ.p = 0) (hq : σ.q = 0) (h4 : ∀ j, j < 6 → X 4 j = σ.kd j) (h5 : ∀ j, j < 5 → X 5 j = σ.sk j) (hw : ∀ j, σ.wa j = 0) (hs : ∀ j, σ.sa j = 0) (h9 : (rd0 l L σ).1 = -9) : ∃ X0 X', (∀ b, b ≠ 3 → b ≠ 16 → b ≠ 17 → b ≠ 18 → X0 b = X b) ∧ X0 16 3 = 0 ∧ X0 16 4 = 0 ∧ X0 16 5 = 0 ∧ RCS X0 (rd0 l L σ).2 X' ∧ f_Bri_marsh X Y = rI ((10 : Int32) * nI (rd0 l L σ).2.p + nI (rd0 l L σ).2.q) (up (up (up X' 6 2 0) 13 0 0) 13 1 0) Y := by
  have hb : ∀ b, b ≠ 3 → b ≠ 16 → b ≠ 17 → b ≠ 18 → setC (up (up X 3 2 0) 3 3 0) 16 (fun _ => 0) b = X b := by
    intro b b3 b16 b17 b18
    rw [setC_o b16 b17 b18, up_ne _ _ _ b3, up_ne _ _ _ b3]
  have hC : RCS (setC (up (up X 3 2 0) 3 3 0) 16 (fun _ => 0)) σ (setC (up (up X 3 2 0) 3 3 0) 16 (fun _ => 0)) := by
    refine ⟨fun _ _ => rfl, ?_, ?_, ?_, ?_, ?_, ?_⟩
    · rw [setC_o (by decide) (by decide) (by decide), up_an _ _ _ _ (by decide), up_at, hp]; rfl
    · rw [setC_o (by decide) (by decide) (by decide), up_at, hq]; rfl
    · intro j hj; rw [hb 4 (by decide) (by decide) (by decide) (by decide)]; exact h4 j hj
    · intro j hj; rw [hb 5 (by decide) (by decide) (by decide) (by decide)]; exact h5 j hj
    · intro j hj; rw [show (17 : Nat) = 16 + 1 from rfl, setC_w hj]; exact (hw j).symm
    · intro j hj; rw [show (18 : Nat) = 16 + 2 from rfl, setC_s hj]; exact (hs j).symm
  have hff := s_firstFault (Y := Y) hL h36 hl hp hq
  have z1 : setC (up (up X 3 2 0) 3 3 0) 16 (fun _ => 0) 16 3 = 0 := setC_3
  have z2 : setC (up (up X 3 2 0) 3 3 0) 16 (fun _ => 0) 16 4 = 0 := setC_4
  have z3 : setC (up (up X 3 2 0) 3 3 0) 16 (fun _ => 0) 16 5 = 0 := setC_5
  have hlo : f_Txt_layOut X Y = l_Txt_layOut_13 kxL (255 + 1) 0 (nI 0) (setC (up (up X 3 2 0) 3 3 0) 16 (fun _ => 0)) Y := by
    unfold f_Txt_layOut f_Gro_clear
    rw [lh_e, lh_e, bv_rV, s_clear16, bv_rV]
    rfl
  generalize setC (up (up X 3 2 0) 3 3 0) 16 (fun _ => 0) = X0 at hb hC z1 z2 z3 hlo
  have hL0 : X0 1 1 = nI L := by rw [hb 1 (by decide) (by decide) (by decide) (by decide)]; exact hL
  have hl0 : ∀ k, k < L → X0 2 k = l k := by intro k hk; rw [hb 2 (by decide) (by decide) (by decide) (by decide)]; exact hl k hk
  have hL1 : ¬ L = 0 := by
    intro h0
    unfold rd0 at h9
    rw [if_pos h0] at h9
    exact absurd (show (0 : Int32) = -9 from h9) (by decide)
  have h77 : l 0 = 77 := by
    by_cases h : l 0 = 77
    · exact h
    · unfold rd0 at h9
      rw [if_neg hL1, if_neg h] at h9
      exact absurd (show (0 : Int32) = -9 from h9) (by decide)
  have er : rd0 l L σ = rd l L 40 1 σ := by unfold rd0; rw [if_neg hL1, if_pos h77]
  obtain ⟨X', a1, a2⟩ := lo_rd (X0 := X0) (Y := Y) h36 hL0 hl0 40 255 1 σ X0 (by omega) (by omega) (by omega) (by omega) (by omega) (er ▸ h9) hC
  rw [← er] at a1
  refine ⟨X0, X', hb, z1, z2, z3, a1, ?_⟩
  have h2 := a1.2.1
  have h3 := a1.2.2.1
  have e2 : (up (up (up X' 6 2 0) 13 0 0) 13 1 0) 3 = X' 3 := by rw [up_ne _ _ _ (by decide), up_ne _ _ _ (by decide), up_ne _ _ _ (by decide)]
  have ego := lo_go (Y := Y) h36 hL0 hl0 hC (f := 255) (i := 0) (st := 0) (by omega) (Or.inl rfl)
  rw [show sb 0 (l 0) = 1 from by show (if l 0 = 77 then (1 : Int32) else 7) = 1; rw [if_pos h77]] at ego
  unfold f_Bri_marsh f_Act_clear
  rw [hff, bi_rI, if_pos h9, hlo, ego, a2, bv_rV, lh_e, bv_rV, l_marsh39, e2, h2, h3]
-- the model's half
theorem ml_mz {Y : HL} (kx : Int32 → HI → HL → Option Out) : ∀ d f i (X : HI), i + d = 15 → d < f → (∀ j, j < i → X 76 j = 0) → ∃ X', (∀ b, b ≠ 76 → X' b = X b) ∧ (∀ j, j < 15 → X' 76 j = 0) ∧ l_Mod_marsh_35 kx f (nI i) X Y = kx (nI 15) X' Y := by
  intro d
  induction d with
  | zero =>
    intro f i X h hf hv
    obtain ⟨f, rfl⟩ : ∃ f', f = f' + 1 := ⟨f - 1, by omega⟩
    have e : i = 15 := by omega
    subst e
    refine ⟨X, fun _ _ => rfl, hv, ?_⟩
    rw [l_Mod_marsh_35, if_pos (show (15 : Int32) ≤ nI 15 by decide)]
  | succ d ih =>
    intro f i X h hf hv
    obtain ⟨f, rfl⟩ : ∃ f', f = f' + 1 := ⟨f - 1, by omega⟩
    obtain ⟨X', a1, a2, a3⟩ := ih f (i + 1) (up X 76 i 0) (by omega) (by omega) (by
      intro j hj
      by_cases hji : j = i
      · subst hji; rw [up_at]
      · rw [up_an _ _ _ _ hji]; exact hv j (by omega))
    refine ⟨X', fun b hb => (a1 b hb).trans (up_ne _ _ _ hb), a2, ?_⟩
    rw [l_Mod_marsh_35, if_neg (show ¬ (15 : Int32) ≤ nI i from nI_ge (b := 15) (by omega) (by omega)), ixb_nI (by omega) (by decide), wr_t, cl_nI (by omega), nI_up]
    exact a3
theorem ml_mp {Y : HL} {P : Nat} {W : HI} (hP : P ≤ 6) (h4 : W 70 4 = nI P) (hz : ∀ j, j < 15 → W 76 j = 0) (kx : Int32 → HI → HL → Option Out) : ∀ d f i (X : HI), i + d = P → d < f → (∀ b, b ≠ 72 → b ≠ 76 → X b = W b) → (∀ j, X 72 j = if j < i then W 74 (3 * j) else W 72 j) → (∀ j, j < 6 → X 76 j = if j < i then W 74 (3 * j + 1) else 0) → (∀ j, j < 6 → X 76 (6 + j) = if j < i then W 74 (3 * j + 2) else 0) → (∀ j, 12 ≤ j → j < 15 → X 76 j = 0) → ∃ X', (∀ b, b ≠ 72 → b ≠ 76 → X' b = W b) ∧ (∀ j, X' 72 j = if j < P then W 74 (3 * j) else W 72 j) ∧ (∀ j, j < 6 → X' 76 j = if j < P then W 74 (3 * j + 1) else 0) ∧ (∀ j, j < 6 → X' 76 (6 + j) = if j < P then W 74 (3 * j + 2) else 0) ∧ (∀ j, 12 ≤ j → j < 15 → X' 76 j = 0) ∧ l_Mod_marsh_56 kx f (nI i) X Y = kx (nI P) X' Y := by
  intro d
  induction d with
  | zero =>
    intro f i X h hf h1 h2 h3 h5 h6
    obtain ⟨f, rfl⟩ : ∃ f', f = f' + 1 := ⟨f - 1, by omega⟩
    have e : i = P := by omega
    subst e
    refine ⟨X, h1, h2, h3, h5, h6, ?_⟩
    rw [l_Mod_marsh_56, h1 70 (by decide) (by decide), h4, if_pos (nI_le (Nat.le_refl _) (by omega))]
  | succ d ih =>
    intro f i X h hf h1 h2 h3 h5 h6
    obtain ⟨f, rfl⟩ : ∃ f', f = f' + 1 := ⟨f - 1, by omega⟩
    have e74 : X 74 = W 74 := h1 74 (by decide) (by decide)
    obtain ⟨X', a1, a2, a3, a4, a5, a6⟩ := ih f (i + 1) (up (up (up X 72 i (W 74 (3 * i))) 76 i (W 74 (3 * i + 1))) 76 (6 + i) (W 74 (3 * i + 2))) (by omega) (by omega) (by
        intro b b1 b2
        rw [up_ne _ _ _ b2, up_ne _ _ _ b2, up_ne _ _ _ b1]
        exact h1 b b1 b2) (by
        intro j
        rw [up_ne _ _ _ (by decide), up_ne _ _ _ (by decide)]
        by_cases hji : j = i
        · subst hji; rw [up_at, if_pos (by omega)]
        · rw [up_an _ _ _ _ hji, h2 j]
          by_cases hlt : j < i
          · rw [if_pos hlt, if_pos (by omega)]
          · rw [if_neg hlt, if_neg (by omega)]) (by
        intro j hj
        rw [up_an _ _ _ _ (by omega)]
        by_cases hji : j = i
        · subst hji; rw [up_at, if_pos (by omega)]
        · rw [up_an _ _ _ _ hji, up_ne _ _ _ (by decide), h3 j hj]
          by_cases hlt : j < i
          · rw [if_pos hlt, if_pos (by omega)]
          · rw [if_neg hlt, if_neg (by omega)]) (by
        intro j hj
        by_cases hji : j = i
        · subst hji; rw [up_at, if_pos (by omega)]
        · rw [up_an _ _ _ _ (by omega), up_an _ _ _ _ (by omega), up_ne _ _ _ (by decide), h5 j hj]
          by_cases hlt : j < i
          · rw [if_pos hlt, if_pos (by omega)]
          · rw [if_neg hlt, if_neg (by omega)]) (by
        intro j j1 j2
        rw [up_an _ _ _ _ (by omega), up_an _ _ _ _ (by omega), up_ne _ _ _ (by decide)]
        exact h6 j j1 j2)
    refine ⟨X', a1, a2, a3, a4, a5, ?_⟩
    have i3 : (3 : Int32) * nI i = nI (3 * i) := pk_mul 3 i
    rw [l_Mod_marsh_56, h1 70 (by decide) (by decide), h4, if_neg (nI_ge (by omega) (by omega)), i3, ixb_nI (by omega) (by decide), gd_t, ixb_nI (by omega) (by decide), wr_t, cl_nI (by omega), cl_nI (by omega), e74, show nI (3 * i) + (1 : Int32) = nI (3 * i + 1) from nI_up _, ixb_nI (by omega) (by decide), gd_t, ixb_nI (by omega) (by decide), wr_t, cl_nI (by omega), up_ne _ _ _ (by decide), e74, show nI (3 * i) + (2 : Int32) = nI (3 * i + 2) from nI_add _ 2, ixb_nI (by omega) (by decide), gd_t, six, ixb_nI (by omega) (by decide), wr_t, cl_nI (by omega), cl_nI (by omega), up_ne _ _ _ (by decide), up_ne _ _ _ (by decide), e74, nI_up]
    exact a6
theorem ml_ms {Y : HL} {Q : Nat} {W : HI} (hQ : Q ≤ 5) (h6 : W 70 6 = nI Q) (kx : Int32 → HI → HL → Option Out) : ∀ d f i (X : HI), i + d = Q → d < f → (∀ b, b ≠ 73 → X b = W b) → (∀ j, X 73 j = if j < i then W 75 j else W 73 j) → ∃ X', (∀ b, b ≠ 73 → X' b = W b) ∧ (∀ j, X' 73 j = if j < Q then W 75 j else W 73 j) ∧ l_Mod_marsh_121 kx f (nI i) X Y = kx (nI Q) X' Y := by
  intro d
  induction d with
  | zero =>
    intro f i X h hf h1 h2
    obtain ⟨f, rfl⟩ : ∃ f', f = f' + 1 := ⟨f - 1, by omega⟩
    have e : i = Q := by omega
    subst e
    refine ⟨X, h1, h2, ?_⟩
    rw [l_Mod_marsh_121, h1 70 (by decide), h6, if_pos (nI_le (Nat.le_refl _) (by omega))]
  | succ d ih =>
    intro f i X h hf h1 h2
    obtain ⟨f, rfl⟩ : ∃ f', f = f' + 1 := ⟨f - 1, by omega⟩
    obtain ⟨X', a1, a2, a3⟩ := ih f (i + 1) (up X 73 i (W 75 i)) (by omega) (by omega) (fun b hb => (up_ne _ _ _ hb).trans (h1 b hb)) (by
        intro j
        by_cases hji : j = i
        · subst hji; rw [up_at, if_pos (by omega)]
        · rw [up_an _ _ _ _ hji, h2 j]
          by_cases hlt : j < i
          · rw [if_pos hlt, if_pos (by omega)]
          · rw [if_neg hlt, if_neg (by omega)])
    refine ⟨X', a1, a2, ?_⟩
    rw [l_Mod_marsh_121, h1 70 (by decide), h6, if_neg (nI_ge (by omega) (by omega)), ixb_nI (by omega) (by decide), gd_t, wr_t, cl_nI (by omega), h1 75 (by decide), nI_up]
    exact a3
theorem rd0_SI {l : Pg} {L : Nat} {kd0 sk0 : Pg} (hl : lok l L) {σ : St} (h : SI kd0 sk0 σ) : SI kd0 sk0 (rd0 l L σ).2 := by
  unfold rd0
  split
  · exact h
  · split
    · exact rd_SI hl 40 1 σ h
    · exact h
theorem ok_marsh : Ok (fun X Y => f_Bri_marsh X Y) (fun X Y => f_Mod_marsh X Y) := by
  intro T X Y hT hR
  obtain ⟨n, m, hg, ht, hp, hh, hk, hf, hy⟩ := id hR
  obtain ⟨hE, h4, h6, hs4⟩ := id hg
  obtain ⟨L, h36, hL, h2, htx⟩ := id ht
  have hl : lok (X 71) L := ⟨h36, fun k hk => (htx k hk).2⟩
  have hl2 : ∀ k, k < L → X 2 k = X 71 k := fun k hk => (htx k hk).1
  by_cases h9 : (rd0 (X 71) L (σ0 X)).1 = -9
  · obtain ⟨X0, X', hb, z1, z2, z3, a1, a2⟩ := c_marsh (Y := Y) (σ := σ0 X) h36 hL hl2 rfl rfl hE.2.2.2.2.1 hE.2.2.2.2.2 (fun _ => rfl) (fun _ => rfl) h9
    have hX1 : ∀ b, layC b = false → b ≠ 6 → b ≠ 13 → b ≠ 16 → (up (up (up X' 6 2 0) 13 0 0) 13 1 0) b = X b := by
      intro b c1 c2 c3 c4
      rw [up_ne _ _ _ c3, up_ne _ _ _ c3, up_ne _ _ _ c2, a1.1 b c1]
      exact hb b (by intro e; subst e; exact absurd c1 (by decide)) c4 (by intro e; subst e; exact absurd c1 (by decide)) (by intro e; subst e; exact absurd c1 (by decide))
    have hX3 : ∀ b, b ≠ 6 → b ≠ 13 → (up (up (up X' 6 2 0) 13 0 0) 13 1 0) b = X' b := by
      intro b c2 c3
      rw [up_ne _ _ _ c3, up_ne _ _ _ c3, up_ne _ _ _ c2]
    have k13 : ∀ s, s < 2 → (up (up (up X' 6 2 0) 13 0 0) 13 1 0) 13 s = 0 := by
      intro s hs
      by_cases h1 : s = 1
      · subst h1; rw [up_at]
      · rw [up_an _ _ _ _ h1, show s = 0 by omega, up_at]
    have k62 : (up (up (up X' 6 2 0) 13 0 0) 13 1 0) 6 2 = 0 := by rw [up_ne _ _ _ (by decide), up_ne _ _ _ (by decide), up_at]
    have k61 : (up (up (up X' 6 2 0) 13 0 0) 13 1 0) 6 1 = X 6 1 := by rw [up_ne _ _ _ (by decide), up_ne _ _ _ (by decide), up_an _ _ _ _ (by decide), a1.1 6 (by decide), hb 6 (by decide) (by decide) (by decide) (by decide)]
    have k16 : X' 16 = X0 16 := a1.1 16 (by decide)
    obtain ⟨_, c32, c33, c4, c5, c17, c18⟩ := a1
    generalize up (up (up X' 6 2 0) 13 0 0) 13 1 0 = X1 at a2 hX1 hX3 k13 k62 k61
    have t0 := thr X1
    obtain ⟨X2, i', b1, b2⟩ := m_readMarsh (X := up X1 70 0 0) (Y := Y) (l := X 71) (σ := σ0 X) hl (by rw [up_an _ _ _ _ (by decide), hX1 70 (by decide) (by decide) (by decide) (by decide)]; exact h2) (fun k hk => by rw [up_ne _ _ _ (by decide), hX1 71 (by decide) (by decide) (by decide) (by decide)]) rfl rfl
    have hSI : SI (X 72) (X 73) (rd0 (X 71) L (σ0 X)).2 := rd0_SI hl ⟨(by decide : (0 : Nat) ≤ 6), (by decide : (0 : Nat) ≤ 5), hs4, fun j _ => by show ((0 : Int) ≤ (0 : Int32).toInt ∧ (0 : Int32).toInt ≤ 9) ∧ 0 ≤ (0 : Int32).toInt ∧ (0 : Int32).toInt ≤ 999; rw [i0]; omega, fun j _ => ⟨rfl, rfl, rfl⟩, fun j _ => rfl⟩
    obtain ⟨s1, _, _, r3, r8, r10, r74, r75⟩ := b1
    have s2 := t0.tr s1
    generalize (rd0 (X 71) L (σ0 X)).2 = σ at a2 hSI r8 r10 r74 r75 c32 c33 c4 c5 c17 c18
    obtain ⟨i1, i2, i3, i4, i5, i6⟩ := hSI
    have e10 : (up X2 70 4 (X2 70 8)) 70 10 = nI σ.q := by rw [up_an _ _ _ _ (by decide)]; exact r10
    have W4 : (up (up X2 70 4 (X2 70 8)) 70 6 ((up X2 70 4 (X2 70 8)) 70 10)) 70 4 = nI σ.p := by rw [up_an _ _ _ _ (by decide), up_at]; exact r8
    have W6 : (up (up X2 70 4 (X2 70 8)) 70 6 ((up X2 70 4 (X2 70 8)) 70 10)) 70 6 = nI σ.q := by rw [up_at]; exact e10
    have Wk : ∀ k, k ≠ 4 → k ≠ 6 → (up (up X2 70 4 (X2 70 8)) 70 6 ((up X2 70 4 (X2 70 8)) 70 10)) 70 k = X2 70 k := by
      intro k k4 k6
      rw [up_an _ _ _ _ k6, up_an _ _ _ _ k4]
    have Wb : ∀ b, b ≠ 70 → (up (up X2 70 4 (X2 70 8)) 70 6 ((up X2 70 4 (X2 70 8)) 70 10)) b = X2 b := by
      intro b hb
      rw [up_ne _ _ _ hb, up_ne _ _ _ hb]
    have start : f_Mod_marsh X1 Y = l_Mod_marsh_35 (fun w8 X9 Y10 =>
    (l_Mod_marsh_56 (fun w14 X15 Y16 =>
    (l_Mod_marsh_121 (fun w18 X19 Y20 =>
    lh (up X19 70 15 (0 : Int32)) (fun X21 =>
    wr (ixb (0 : Int32) 2) (up X21 80 (0 : Int32).toNatClampNeg (vp_nar .boolean (0 : Int32))) (fun X22 =>
    wr (ixb (1 : Int32) 2) (up X22 80 (1 : Int32).toNatClampNeg (vp_nar .boolean (0 : Int32))) (fun X23 =>
    (rI (((10 : Int32) * (X23 70 4)) + (X23 70 6)) X23 Y20))))) 256 (nI 0) X15 Y16)) 256 (nI 0) X9 Y10)) 256 (nI 0) (up (up X2 70 4 (X2 70 8)) 70 6 ((up X2 70 4 (X2 70 8)) 70 10)) Y := by
      unfold f_Mod_marsh
      rw [lh_e, b2, bi_rI, if_pos h9, lh_e, lh_e]
      rfl
    generalize up (up X2 70 4 (X2 70 8)) 70 6 ((up X2 70 4 (X2 70 8)) 70 10) = X3 at start W4 W6 Wk Wb
    obtain ⟨X4, m1, m2, m3⟩ := ml_mz (Y := Y) _ 15 256 0 X3 (by omega) (by omega) (fun j hj => absurd hj (by omega))
    rw [m3] at start
    obtain ⟨X5, p1, p2, p3, p4, p5, p6⟩ := ml_mp (Y := Y) (P := σ.p) (W := X4) i1 (by rw [m1 70 (by decide)]; exact W4) m2 _ σ.p 256 0 X4 (by omega) (by omega) (fun _ _ _ => rfl) (fun j => by rw [if_neg (by omega)]) (fun j hj => by rw [if_neg (by omega)]; exact m2 j (by omega)) (fun j hj => by rw [if_neg (by omega)]; exact m2 _ (by omega)) (fun j _ hj => m2 j hj)
    rw [p6] at start
    obtain ⟨X6, q1, q2, q3⟩ := ml_ms (Y := Y) (Q := σ.q) (W := X5) i2 (by rw [p1 70 (by decide) (by decide), m1 70 (by decide)]; exact W6) _ σ.q 256 0 X5 (by omega) (by omega) (fun _ _ => rfl) (fun j => by rw [if_neg (by omega)])
    rw [q3] at start
    rw [lh_e, show ixb (0 : Int32) 2 = true from by decide, wr_t, show ixb (1 : Int32) 2 = true from by decide, wr_t, show (0 : Int32).toNatClampNeg = 0 from by decide, show (1 : Int32).toNatClampNeg = 1 from by decide, show vp_nar .boolean (0 : Int32) = 0 from by decide] at start
    have e70 : ∀ k, X6 70 k = X3 70 k := by
      intro k
      rw [q1 70 (by decide), p1 70 (by decide) (by decide), m1 70 (by decide)]
    have f70 : ∀ k, k ≠ 15 → (up (up (up X6 70 15 0) 80 0 0) 80 1 0) 70 k = X3 70 k := by
      intro k hk
      rw [up_ne _ _ _ (by decide), up_ne _ _ _ (by decide), up_an _ _ _ _ hk]
      exact e70 k
    have f15 : (up (up (up X6 70 15 0) 80 0 0) 80 1 0) 70 15 = 0 := by rw [up_ne _ _ _ (by decide), up_ne _ _ _ (by decide), up_at]
    have f80 : ∀ s, s < 2 → (up (up (up X6 70 15 0) 80 0 0) 80 1 0) 80 s = 0 := by
      intro s hs
      by_cases h1 : s = 1
      · subst h1; rw [up_at]
      · rw [up_an _ _ _ _ h1, show s = 0 by omega, up_at]
    have f6 : ∀ b, b ≠ 70 → b ≠ 80 → (up (up (up X6 70 15 0) 80 0 0) 80 1 0) b = X6 b := by
      intro b b7 b8
      rw [up_ne _ _ _ b8, up_ne _ _ _ b8, up_ne _ _ _ b7]
    have cell : ∀ b, scr b = false → b ≠ 70 → b ≠ 72 → b ≠ 73 → b ≠ 76 → b ≠ 80 → (up (up (up X6 70 15 0) 80 0 0) 80 1 0) b = X1 b := by
      intro b hb h70 h72 h73 h76 h80
      rw [f6 b h70 h80, q1 b h73, p1 b h72 h76, m1 b h76, Wb b h70]
      exact s2.1 b hb h70
    have v72 : ∀ j, j < 6 → X6 72 j = σ.kd j := by
      intro j hj
      rw [q1 72 (by decide), p2 j]
      by_cases hlt : j < σ.p
      · rw [if_pos hlt, m1 74 (by decide), Wb 74 (by decide)]; exact (r74 j hlt).1
      · rw [if_neg hlt, m1 72 (by decide), Wb 72 (by decide), s2.1 72 (by decide) (by decide), hX1 72 (by decide) (by decide) (by decide) (by decide), (i5 j (by omega)).2.2]
    have v73 : ∀ j, j < 5 → X6 73 j = σ.sk j := by
      intro j hj
      rw [q2 j]
      by_cases hlt : j < σ.q
      · rw [if_pos hlt, p1 75 (by decide) (by decide), m1 75 (by decide), Wb 75 (by decide)]; exact r75 j hlt
      · rw [if_neg hlt, p1 73 (by decide) (by decide), m1 73 (by decide), Wb 73 (by decide), s2.1 73 (by decide) (by decide), hX1 73 (by decide) (by decide) (by decide) (by decide), i6 j (by omega)]
    have v76 : ∀ j, j < 6 → X6 76 j = σ.wa j := by
      intro j hj
      rw [q1 76 (by decide), p3 j hj]
      by_cases hlt : j < σ.p
      · rw [if_pos hlt, m1 74 (by decide), Wb 74 (by decide)]; exact (r74 j hlt).2.1
      · rw [if_neg hlt, (i5 j (by omega)).1]
    have v76s : ∀ j, j < 6 → X6 76 (6 + j) = σ.sa j := by
      intro j hj
      rw [q1 76 (by decide), p4 j hj]
      by_cases hlt : j < σ.p
      · rw [if_pos hlt, m1 74 (by decide), Wb 74 (by decide)]; exact (r74 j hlt).2.2
      · rw [if_neg hlt, (i5 j (by omega)).2.1]
    have v76h : ∀ j, 12 ≤ j → j < 15 → X6 76 j = 0 := by
      intro j j1 j2
      rw [q1 76 (by decide)]
      exact p5 j j1 j2
    have w72 := f6 72 (by decide) (by decide)
    have w73 := f6 73 (by decide) (by decide)
    have w76 := f6 76 (by decide) (by decide)
    have g4 : (up (up (up X6 70 15 0) 80 0 0) 80 1 0) 70 4 = nI σ.p := (f70 4 (by decide)).trans W4
    have g6 : (up (up (up X6 70 15 0) 80 0 0) 80 1 0) 70 6 = nI σ.q := (f70 6 (by decide)).trans W6
    have g2 : (up (up (up X6 70 15 0) 80 0 0) 80 1 0) 70 2 = X 70 2 := by rw [f70 2 (by decide), Wk 2 (by decide) (by decide), s2.2.1, hX1 70 (by decide) (by decide) (by decide) (by decide)]
    have g18 : (up (up (up X6 70 15 0) 80 0 0) 80 1 0) 70 18 = X 70 18 := by rw [f70 18 (by decide), Wk 18 (by decide) (by decide), s2.2.2.2.2.2, hX1 70 (by decide) (by decide) (by decide) (by decide)]
    generalize up (up (up X6 70 15 0) 80 0 0) 80 1 0 = X7 at start f15 f80 cell w72 w73 w76 g4 g6 g2 g18
    have c8 : ∀ b, scr b = false → b ≠ 70 → b ≠ 72 → b ≠ 73 → b ≠ 76 → b ≠ 80 → layC b = false → b ≠ 6 → b ≠ 13 → b ≠ 16 → X7 b = X b := fun b a1 a2 a3 a4 a5 a6 a7 a8 a9 a10 => (cell b a1 a2 a3 a4 a5 a6).trans (hX1 b a7 a8 a9 a10)
    have c9 : ∀ b, scr b = false → b ≠ 70 → b ≠ 72 → b ≠ 73 → b ≠ 76 → b ≠ 80 → b ≠ 6 → b ≠ 13 → X7 b = X' b := fun b a1 a2 a3 a4 a5 a6 a7 a8 => (cell b a1 a2 a3 a4 a5 a6).trans (hX3 b a7 a8)
    have hpage : ∀ k, k < 15 → pgC X7 16 k = X7 76 k := by
      intro k hk
      unfold pgC
      rw [show (16 + 1 : Nat) = 17 from rfl, show (16 + 2 : Nat) = 18 from rfl, c9 17 (by decide) (by decide) (by decide) (by decide) (by decide) (by decide) (by decide) (by decide), c9 18 (by decide) (by decide) (by decide) (by decide) (by decide) (by decide) (by decide) (by decide), c9 16 (by decide) (by decide) (by decide) (by decide) (by decide) (by decide) (by decide) (by decide), w76, k16]
      by_cases h6 : k < 6
      · rw [if_pos h6, c17 k h6, v76 k h6]
      · rw [if_neg h6]
        by_cases h12 : k < 12
        · have e := v76s (k - 6) (by omega)
          rw [show 6 + (k - 6) = k by omega] at e
          rw [if_pos h12, c18 (k - 6) (by omega), e]
        · rw [if_neg h12, v76h k (by omega) hk]
          by_cases h12' : k = 12
          · rw [if_pos h12', z1]
          · rw [if_neg h12']
            by_cases h13' : k = 13
            · rw [if_pos h13', z2]
            · rw [if_neg h13', z3]
    refine ⟨(10 : Int32) * nI σ.p + nI σ.q, X1, Y, X7, Y, a2, ?_, ?_⟩
    · show f_Mod_marsh X1 Y = _
      rw [start, g4, g6]
    · refine ⟨σ.p, σ.q, ⟨⟨?_, ?_, i1, i2, ?_, ?_⟩, g4, g6, ?_⟩, ⟨L, h36, ?_, ?_, ?_⟩, ⟨hpage, ?_, ?_, 0, by omega, ?_⟩, ?_, ?_, ?_, hy⟩
      · rw [c9 3 (by decide) (by decide) (by decide) (by decide) (by decide) (by decide) (by decide) (by decide)]; exact c32
      · rw [c9 3 (by decide) (by decide) (by decide) (by decide) (by decide) (by decide) (by decide) (by decide)]; exact c33
      · intro k hk
        rw [c9 4 (by decide) (by decide) (by decide) (by decide) (by decide) (by decide) (by decide) (by decide), w72, v72 k hk]; exact c4 k hk
      · intro k hk
        rw [c9 5 (by decide) (by decide) (by decide) (by decide) (by decide) (by decide) (by decide) (by decide), w73, v73 k hk]; exact c5 k hk
      · intro k hk
        rw [w73, v73 k hk]
        exact i3 k hk
      · rw [c8 1 (by decide) (by decide) (by decide) (by decide) (by decide) (by decide) (by decide) (by decide) (by decide) (by decide)]; exact hL
      · rw [g2]; exact h2
      · intro k hk
        rw [c8 2 (by decide) (by decide) (by decide) (by decide) (by decide) (by decide) (by decide) (by decide) (by decide) (by decide), c8 71 (by decide) (by decide) (by decide) (by decide) (by decide) (by decide) (by decide) (by decide) (by decide) (by decide)]
        exact htx k hk
      · intro k hk
        rw [w76, v76 k hk, v76s k hk]
        exact i4 k hk
      · intro k h1 hk
        rw [w76, v76 k hk, v76s k hk]
        exact ⟨(i5 k h1).1, (i5 k h1).2.1⟩
      · rw [w76, v76h 14 (by omega) (by omega)]; rfl
      · obtain ⟨c, nx, _, hnx, _, h61, _, _⟩ := hh
        refine ⟨0, nx, by omega, hnx, ?_, ?_, f15, fun j hj => absurd hj (by omega)⟩
        · rw [cell 6 (by decide) (by decide) (by decide) (by decide) (by decide) (by decide)]; exact k62
        · rw [cell 6 (by decide) (by decide) (by decide) (by decide) (by decide) (by decide), k61]; exact h61
      · intro s hs
        rw [f80 s hs, cell 13 (by decide) (by decide) (by decide) (by decide) (by decide) (by decide), k13 s hs]
        exact ⟨rfl, Or.inl rfl, fun h => absurd h (by decide)⟩
      · obtain ⟨c, hc, h83, h70, hl⟩ := hf
        refine ⟨c, hc, ?_, ?_, ?_⟩
        · rw [c8 8 (by decide) (by decide) (by decide) (by decide) (by decide) (by decide) (by decide) (by decide) (by decide) (by decide)]; exact h83
        · rw [g18]; exact h70
        · intro i hi
          rw [c8 9 (by decide) (by decide) (by decide) (by decide) (by decide) (by decide) (by decide) (by decide) (by decide) (by decide), c8 10 (by decide) (by decide) (by decide) (by decide) (by decide) (by decide) (by decide) (by decide) (by decide) (by decide), c8 11 (by decide) (by decide) (by decide) (by decide) (by decide) (by decide) (by decide) (by decide) (by decide) (by decide), c8 81 (by decide) (by decide) (by decide) (by decide) (by decide) (by decide) (by decide) (by decide) (by decide) (by decide), c8 82 (by decide) (by decide) (by decide) (by decide) (by decide) (by decide) (by decide) (by decide) (by decide) (by decide), c8 83 (by decide) (by decide) (by decide) (by decide) (by decide) (by decide) (by decide) (by decide) (by decide) (by decide)]
          exact hl i hi
  · obtain ⟨X', i', b1, b2⟩ := m_readMarsh (X := up X 70 0 0) (Y := Y) (l := X 71) (σ := σ0 X) hl (by rw [up_an _ _ _ _ (by decide)]; exact h2) (fun k hk => by rw [up_ne _ _ _ (by decide)]) rfl rfl
    refine ⟨-3, X, Y, X', Y, ?_, ?_, (hR.same ((thr X).tr b1.1)).mono (by omega)⟩
    · show f_Bri_marsh X Y = _
      unfold f_Bri_marsh
      rw [s_firstFault hL h36 hl2 (σ := σ0 X) rfl rfl, bi_rI, if_neg h9]
    · show f_Mod_marsh X Y = _
      unfold f_Mod_marsh
      rw [lh_e, b2, bi_rI, if_neg h9]
