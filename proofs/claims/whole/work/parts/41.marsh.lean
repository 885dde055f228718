/-! the model reads the marsh; fault -/
theorem stp_so {l : Pg} {L i pos : Nat} {σ σ' : St} (hs : stp l L i σ = (pos, some σ')) : i + 2 ≤ pos ∧ pos ≤ L ∧
    ((l i = 78 ∧ σ.p < 6 ∧ dgB l L (i + 1) 48 51 = true ∧ dgB l L (i + 2) 48 54 = true ∧ dgB l L (i + 3) 48 57 = true ∧ pos = i + 4 ∧ σ' = adP σ (l (i + 1) - 48) (l (i + 2) - 48) (10 * (l (i + 3) - 48))) ∨
     (l i = 82 ∧ σ.q < 5 ∧ dgB l L (i + 1) 49 52 = true ∧ pos = i + 2 ∧ σ' = adS σ (-(l (i + 1) - 48))) ∨
     (l i = 83 ∧ σ.q < 5 ∧ dgB l L (i + 1) 48 52 = true ∧ pos = i + 2 ∧ σ' = adS σ (l (i + 1) - 48))) := by
  have no : ∀ {a : Nat} {P : Prop}, (a, (none : Option St)) = (pos, some σ') → P := fun h => by cases h
  unfold stp at hs
  by_cases hN : l i = 78
  · rw [if_pos hN] at hs
    by_cases h6 : σ.p < 6
    · rw [if_pos h6] at hs
      cases d1 : dgB l L (i + 1) 48 51 with
      | false => rw [d1, if_neg (show ¬ false = true by decide)] at hs; exact no hs
      | true =>
        rw [d1, if_pos rfl] at hs
        cases d2 : dgB l L (i + 2) 48 54 with
        | false => rw [d2, if_neg (show ¬ false = true by decide)] at hs; exact no hs
        | true =>
          rw [d2, if_pos rfl] at hs
          cases d3 : dgB l L (i + 3) 48 57 with
          | false => rw [d3, if_neg (show ¬ false = true by decide)] at hs; exact no hs
          | true =>
            rw [d3, if_pos rfl] at hs
            obtain ⟨e1, e2⟩ := Prod.mk.inj hs
            have y := (dg_y d3).1
            exact ⟨by omega, by omega, Or.inl ⟨hN, h6, rfl, rfl, rfl, e1.symm, (Option.some.inj e2).symm⟩⟩
    · rw [if_neg h6] at hs; exact no hs
  · rw [if_neg hN] at hs
    by_cases hR : l i = 82
    · rw [if_pos hR] at hs
      by_cases h5 : σ.q < 5
      · rw [if_pos h5] at hs
        cases d1 : dgB l L (i + 1) 49 52 with
        | false => rw [d1, if_neg (show ¬ false = true by decide)] at hs; exact no hs
        | true =>
          rw [d1, if_pos rfl] at hs
          obtain ⟨e1, e2⟩ := Prod.mk.inj hs
          have y := (dg_y d1).1
          exact ⟨by omega, by omega, Or.inr (Or.inl ⟨hR, h5, rfl, e1.symm, (Option.some.inj e2).symm⟩)⟩
      · rw [if_neg h5] at hs; exact no hs
    · rw [if_neg hR] at hs
      by_cases hS : l i = 83
      · rw [if_pos hS] at hs
        by_cases h5 : σ.q < 5
        · rw [if_pos h5] at hs
          cases d1 : dgB l L (i + 1) 48 52 with
          | false => rw [d1, if_neg (show ¬ false = true by decide)] at hs; exact no hs
          | true =>
            rw [d1, if_pos rfl] at hs
            obtain ⟨e1, e2⟩ := Prod.mk.inj hs
            have y := (dg_y d1).1
            exact ⟨by omega, by omega, Or.inr (Or.inr ⟨hS, h5, rfl, e1.symm, (Option.some.inj e2).symm⟩)⟩
        · rw [if_neg h5] at hs; exact no hs
      · rw [if_neg hS] at hs; exact no hs
theorem stp_pq {l : Pg} {L i pos : Nat} {σ σ' : St} (hs : stp l L i σ = (pos, some σ')) (hp : σ.p ≤ 6) (hq : σ.q ≤ 5) : σ'.p ≤ 6 ∧ σ'.q ≤ 5 := by
  obtain ⟨_, _, h | h | h⟩ := stp_so hs
  · obtain ⟨_, h6, _, _, _, _, rfl⟩ := h
    exact ⟨by show σ.p + 1 ≤ 6; omega, hq⟩
  · obtain ⟨_, h5, _, _, rfl⟩ := h
    exact ⟨hp, by show σ.q + 1 ≤ 5; omega⟩
  · obtain ⟨_, h5, _, _, rfl⟩ := h
    exact ⟨hp, by show σ.q + 1 ≤ 5; omega⟩
def kxR : HI → HL → Option Out := fun X8 Y9 => (rI (X8 70 3) X8 Y9)
theorem ml_read {l : Pg} {L : Nat} {X0 : HI} {Y : HL} (hl : lok l L) : ∀ g f i (σ : St) (X : HI), L - i < g → L - i < f → i ≤ L → σ.p ≤ 6 → σ.q ≤ 5 → RMS l L X0 σ i X → ∃ X' i', RMS l L X0 (rd l L g i σ).2 i' X' ∧ l_Mod_readMarsh_40 kxR f X Y = rI (rd l L g i σ).1 X' Y := by
  have l36 := hl.1
  intro g
  induction g with
  | zero => intro f i σ X h; omega
  | succ g ih =>
    intro f i σ X h hf hiL hp hq hM
    obtain ⟨f, rfl⟩ : ∃ f', f = f' + 1 := ⟨f - 1, by omega⟩
    have e3 := hM.2.2.2.1
    have e2 : X 70 2 = nI L := hM.1.2.1.trans hM.2.1
    by_cases hi : L ≤ i
    · refine ⟨X, i, ?_, ?_⟩
      · rw [rd_end hi]; exact hM
      · rw [rd_end hi, l_Mod_readMarsh_40, e2, e3, if_pos (nI_le hi (by omega))]
    · rw [l_Mod_readMarsh_40, e2, e3, if_neg (nI_ge (by omega) (by omega))]
      cases hs : stp l L i σ with
      | mk pos o =>
        have q := m_readThing (Y := Y) hl hM (by omega) hp hq pos o hs
        cases o with
        | none =>
          obtain ⟨X', a1, a2⟩ := q
          refine ⟨X', pos, ?_, ?_⟩
          · rw [rd_no hi hs]; exact a1
          · rw [a2, bi_rI, if_pos z00, rd_no hi hs]
            unfold kxR
            rw [a1.2.2.2.1]
        | some σ' =>
          obtain ⟨X', a1, a2⟩ := q
          obtain ⟨p1, p2, _⟩ := stp_so hs
          obtain ⟨p3, p4⟩ := stp_pq hs hp hq
          obtain ⟨X2, i2, b1, b2⟩ := ih f pos σ' X' (by omega) (by omega) p2 p3 p4 a1
          refine ⟨X2, i2, ?_, ?_⟩
          · rw [rd_so hi hs]; exact b1
          · rw [a2, bi_rI, if_neg n10, rd_so hi hs]
            exact b2
theorem m_readMarsh {l : Pg} {L : Nat} {X : HI} {Y : HL} {σ : St} (hl : lok l L) (h2 : X 70 2 = nI L) (h71 : ∀ k, k < L → X 71 k = l k) (hp : σ.p = 0) (hq : σ.q = 0) : ∃ X' i', RMS l L X (rd0 l L σ).2 i' X' ∧ f_Mod_readMarsh X Y = rI (rd0 l L σ).1 X' Y := by
  have l36 := hl.1
  have hM : RMS l L X σ 0 (up (up (up X 70 3 0) 70 8 0) 70 10 0) := by
    refine ⟨((smX_70 X 3 0 (by decide)).tr (smX_70 _ 8 0 (by decide))).tr (smX_70 _ 10 0 (by decide)), h2, h71, ?_, ?_, ?_, fun j hj => absurd hj (by omega), fun j hj => absurd hj (by omega)⟩
    · rw [up_an _ _ _ _ (by decide), up_an _ _ _ _ (by decide), up_at]; rfl
    · rw [up_an _ _ _ _ (by decide), up_at, hp]; rfl
    · rw [up_at, hq]; rfl
  have e2 : (up (up (up X 70 3 0) 70 8 0) 70 10 0) 70 2 = nI L := hM.1.2.1.trans hM.2.1
  have e71 : (up (up (up X 70 3 0) 70 8 0) 70 10 0) 71 = X 71 := hM.1.1 71 (by decide) (by decide)
  unfold f_Mod_readMarsh rd0
  rw [lh_e, lh_e, lh_e]
  generalize up (up (up X 70 3 0) 70 8 0) 70 10 0 = Z at hM e2 e71
  by_cases h0 : L = 0
  · rw [if_pos h0]
    refine ⟨Z, 0, hM, ?_⟩
    rw [e2, h0, if_pos (show nI 0 = 0 from rfl)]
  · rw [if_neg h0, e2, if_neg (nI_ne0 (by omega) (by omega)), show ixb (0 : Int32) 36 = true from by decide, gd_t, show (0 : Int32).toNatClampNeg = 0 from by decide, e71, h71 0 (by omega)]
    by_cases h77 : l 0 = 77
    · rw [if_pos h77, if_pos h77, lh_e]
      exact ml_read (X0 := X) (Y := Y) hl 40 256 1 σ (up Z 70 3 1) (by omega) (by omega) (by omega) (by omega) (by omega) (hM.go 1)
    · rw [if_neg h77, if_neg h77]
      exact ⟨Z, 0, hM, rfl⟩
def σ0 (X : HI) : St := (0, 0, X 72, (fun _ => 0), (fun _ => 0), X 73)
theorem ok_fault : Ok (fun X Y => f_Bri_fault X Y) (fun X Y => f_Mod_fault X Y) := by
  apply Ok.ask
  intro T n m X Y hT hR hg hp
  obtain ⟨_, _, _, ⟨L, h36, hL, h2, ht⟩, _⟩ := hR
  have hl : lok (X 71) L := ⟨h36, fun k hk => (ht k hk).2⟩
  obtain ⟨X', i', a1, a2⟩ := m_readMarsh (X := up X 70 0 0) (Y := Y) (σ := σ0 X) hl (by rw [up_an _ _ _ _ (by decide)]; exact h2) (fun k hk => by rw [up_ne _ _ _ (by decide)]) rfl rfl
  refine ⟨(rd0 (X 71) L (σ0 X)).1, X, X', ?_, smX.rf X, ?_, (thr X).tr a1.1⟩
  · show f_Bri_fault X Y = _
    unfold f_Bri_fault
    rw [s_firstFault hL h36 (fun k hk => (ht k hk).1) (σ := σ0 X) rfl rfl, bi_rI]
  · show f_Mod_fault X Y = _
    unfold f_Mod_fault
    rw [lh_e, a2, bi_rI]
