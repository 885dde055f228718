/-! the class lays the marsh out -/
theorem stp_no {l : Pg} {L i pos : Nat} {σ : St} (hs : stp l L i σ = (pos, none)) : pos ≤ i + 3 := by
  have so : ∀ {a : Nat} {σ' : St} {P : Prop}, (a, some σ') = (pos, (none : Option St)) → P := fun h => by cases h
  have no : ∀ {a : Nat}, (a, (none : Option St)) = (pos, none) → a = pos := fun h => (Prod.mk.inj h).1
  unfold stp at hs
  split at hs
  · split at hs
    · split at hs
      · split at hs
        · split at hs
          · exact so hs
          · have := no hs; omega
        · have := no hs; omega
      · have := no hs; omega
    · have := no hs; omega
  · split at hs
    · split at hs
      · split at hs
        · exact so hs
        · have := no hs; omega
      · have := no hs; omega
    · split at hs
      · split at hs
        · split at hs
          · exact so hs
          · have := no hs; omega
        · have := no hs; omega
      · have := no hs; omega
def layC (b : Nat) : Bool := b == 3 || b == 4 || b == 5 || b == 17 || b == 18
def RCS (X0 : HI) (σ : St) (X : HI) : Prop := (∀ b, layC b = false → X b = X0 b) ∧ X 3 2 = nI σ.p ∧ X 3 3 = nI σ.q ∧ (∀ j, j < 6 → X 4 j = σ.kd j) ∧ (∀ j, j < 5 → X 5 j = σ.sk j) ∧ (∀ j, j < 6 → X 17 j = σ.wa j) ∧ (∀ j, j < 6 → X 18 j = σ.sa j)
theorem layC_up {X0 X : HI} {a : Nat} (k : Nat) (v : Int32) (ha : layC a = true) (h : ∀ b, layC b = false → X b = X0 b) : ∀ b, layC b = false → up X a k v b = X0 b := by
  intro b hb
  rw [up_ne _ _ _ (fun e => by subst e; rw [ha] at hb; cases hb)]
  exact h b hb
theorem c_addPan {X0 X : HI} {Y : HL} {σ : St} (h : RCS X0 σ X) (hp : σ.p < 6) (v : Int32) : ∃ X', RCS X0 (σ.p + 1, σ.q, upd σ.kd σ.p v, σ.wa, σ.sa, σ.sk) X' ∧ f_Gro_addPan v X Y = rV X' Y := by
  obtain ⟨h1, h2, h3, h4, h5, h6, h7⟩ := h
  refine ⟨up (up X 4 σ.p v) 3 2 (nI (σ.p + 1)), ⟨layC_up _ _ (by decide) (layC_up _ _ (by decide) h1), up_at _ _ _ _, ?_, ?_, ?_, ?_, ?_⟩, ?_⟩
  · rw [up_an _ _ _ _ (by decide), up_ne _ _ _ (by decide)]; exact h3
  · intro j hj
    rw [up_ne _ _ _ (by decide)]
    show _ = upd σ.kd σ.p v j
    by_cases hjp : j = σ.p
    · subst hjp; rw [up_at, upd_s]
    · rw [up_an _ _ _ _ hjp, upd_n _ _ hjp]; exact h4 j hj
  · intro j hj; rw [up_ne _ _ _ (by decide), up_ne _ _ _ (by decide)]; exact h5 j hj
  · intro j hj; rw [up_ne _ _ _ (by decide), up_ne _ _ _ (by decide)]; exact h6 j hj
  · intro j hj; rw [up_ne _ _ _ (by decide), up_ne _ _ _ (by decide)]; exact h7 j hj
  · unfold f_Gro_addPan
    rw [h2, if_neg (show ¬ (6 : Int32) ≤ nI σ.p from nI_ge (b := 6) hp (by omega)), ixb_nI (by omega) (by decide), wr_t, cl_nI (by omega), lh_e, up_ne _ _ _ (by decide), h2, nI_up]
theorem c_addSky {X0 X : HI} {Y : HL} {σ : St} (h : RCS X0 σ X) (hq : σ.q < 5) (v : Int32) : ∃ X', RCS X0 (adS σ v) X' ∧ f_Gro_addSky v X Y = rV X' Y := by
  obtain ⟨h1, h2, h3, h4, h5, h6, h7⟩ := h
  refine ⟨up (up X 5 σ.q v) 3 3 (nI (σ.q + 1)), ⟨layC_up _ _ (by decide) (layC_up _ _ (by decide) h1), ?_, up_at _ _ _ _, ?_, ?_, ?_, ?_⟩, ?_⟩
  · rw [up_an _ _ _ _ (by decide), up_ne _ _ _ (by decide)]; exact h2
  · intro j hj; rw [up_ne _ _ _ (by decide), up_ne _ _ _ (by decide)]; exact h4 j hj
  · intro j hj
    rw [up_ne _ _ _ (by decide)]
    show _ = upd σ.sk σ.q v j
    by_cases hjp : j = σ.q
    · subst hjp; rw [up_at, upd_s]
    · rw [up_an _ _ _ _ hjp, upd_n _ _ hjp]; exact h5 j hj
  · intro j hj; rw [up_ne _ _ _ (by decide), up_ne _ _ _ (by decide)]; exact h6 j hj
  · intro j hj; rw [up_ne _ _ _ (by decide), up_ne _ _ _ (by decide)]; exact h7 j hj
  · unfold f_Gro_addSky
    rw [h3, if_neg (show ¬ (5 : Int32) ≤ nI σ.q from nI_ge (b := 5) hq (by omega)), ixb_nI (by omega) (by decide), wr_t, cl_nI (by omega), lh_e, up_ne _ _ _ (by decide), h3, nI_up]
theorem c_wat {X0 X : HI} {σ : St} (h : RCS X0 σ X) (p : Nat) (v : Int32) : RCS X0 (σ.p, σ.q, σ.kd, upd σ.wa p v, σ.sa, σ.sk) (up X 17 p v) := by
  obtain ⟨h1, h2, h3, h4, h5, h6, h7⟩ := h
  refine ⟨layC_up _ _ (by decide) h1, ?_, ?_, ?_, ?_, ?_, ?_⟩
  · rw [up_ne _ _ _ (by decide)]; exact h2
  · rw [up_ne _ _ _ (by decide)]; exact h3
  · intro j hj; rw [up_ne _ _ _ (by decide)]; exact h4 j hj
  · intro j hj; rw [up_ne _ _ _ (by decide)]; exact h5 j hj
  · intro j hj
    show _ = upd σ.wa p v j
    by_cases hjp : j = p
    · subst hjp; rw [up_at, upd_s]
    · rw [up_an _ _ _ _ hjp, upd_n _ _ hjp]; exact h6 j hj
  · intro j hj; rw [up_ne _ _ _ (by decide)]; exact h7 j hj
theorem c_sal {X0 X : HI} {σ : St} (h : RCS X0 σ X) (p : Nat) (v : Int32) : RCS X0 (σ.p, σ.q, σ.kd, σ.wa, upd σ.sa p v, σ.sk) (up X 18 p v) := by
  obtain ⟨h1, h2, h3, h4, h5, h6, h7⟩ := h
  refine ⟨layC_up _ _ (by decide) h1, ?_, ?_, ?_, ?_, ?_, ?_⟩
  · rw [up_ne _ _ _ (by decide)]; exact h2
  · rw [up_ne _ _ _ (by decide)]; exact h3
  · intro j hj; rw [up_ne _ _ _ (by decide)]; exact h4 j hj
  · intro j hj; rw [up_ne _ _ _ (by decide)]; exact h5 j hj
  · intro j hj; rw [up_ne _ _ _ (by decide)]; exact h6 j hj
  · intro j hj
    show _ = upd σ.sa p v j
    by_cases hjp : j = p
    · subst hjp; rw [up_at, upd_s]
    · rw [up_an _ _ _ _ hjp, upd_n _ _ hjp]; exact h7 j hj
theorem c_lay {X : HI} {Y : HL} {w p P : Nat} {v : Int32} (h2 : X 3 2 = nI (p + 1)) (hp : p < 6) : f_Pan_lay P w (nI p) v X Y = rV (up X w p v) Y := by
  unfold f_Pan_lay f_Gro_hasPan
  rw [h2, if_neg (nI_pos (by omega)), if_neg (nI_ge (Nat.lt_succ_self p) (by omega)), bi_rI, if_neg n10, ixb_nI (by omega) (by decide), wr_t, cl_nI (by omega)]
def kxL : Int32 → Int32 → HI → HL → Option Out := fun w17 w18 X19 Y20 => (rV X19 Y20)
section LO
variable {X0 X : HI} {Y : HL} {L : Nat} {l : Pg} {σ : St}
theorem lo_137 (h36 : L ≤ 36) (hL : X0 1 1 = nI L) (hl : ∀ k, k < L → X0 2 k = l k) (h : RCS X0 σ X) {f i : Nat} {st : Int32} (hi : i < L) : b_Txt_layOut_137 (fun a3 a4 A B => l_Txt_layOut_13 kxL f a3 a4 A B) kxL st (nI i) X Y = l_Txt_layOut_13 kxL f (sb st (l i)) (nI (i + 1)) X Y := by
  unfold b_Txt_layOut_137
  rw [ixb_nI (by omega) (by decide), gd_t, cl_nI (by omega), h.1 2 (by decide), hl i hi, s_step, bi_rI, nI_up]
theorem lo_1 (h36 : L ≤ 36) (hL : X0 1 1 = nI L) (hl : ∀ k, k < L → X0 2 k = l k) (h : RCS X0 σ X) {f i : Nat} {st : Int32} (hi : i < L) : l_Txt_layOut_13 kxL (f + 1) st (nI i) X Y = (if st = (2 : Int32) then
    bv (f_Gro_addPan (l i - 48) X Y) (fun X6 Y7 =>
    (b_Txt_layOut_137 (fun a3 a4 A B => l_Txt_layOut_13 kxL f a3 a4 A B) kxL st (nI i) X6 Y7))
    else
    (if st = (3 : Int32) then
    bv (f_Pan_lay 16 17 (nI σ.p - (1 : Int32)) (l i - 48) X Y) (fun X11 Y12 =>
    (b_Txt_layOut_137 (fun a3 a4 A B => l_Txt_layOut_13 kxL f a3 a4 A B) kxL st (nI i) X11 Y12))
    else
    (if st = (4 : Int32) then
    bv (f_Pan_lay 16 18 (nI σ.p - (1 : Int32)) ((10 : Int32) * (l i - 48)) X Y) (fun X13 Y14 =>
    (b_Txt_layOut_137 (fun a3 a4 A B => l_Txt_layOut_13 kxL f a3 a4 A B) kxL st (nI i) X13 Y14))
    else
    (if st = (5 : Int32) then
    bv (f_Gro_addSky (l i - 48) X Y) (fun X15 Y16 =>
    (b_Txt_layOut_137 (fun a3 a4 A B => l_Txt_layOut_13 kxL f a3 a4 A B) kxL st (nI i) X15 Y16))
    else
    (if st = (6 : Int32) then
    bv (f_Gro_addSky (-(l i - 48)) X Y) (fun X15 Y16 =>
    (b_Txt_layOut_137 (fun a3 a4 A B => l_Txt_layOut_13 kxL f a3 a4 A B) kxL st (nI i) X15 Y16))
    else
    (b_Txt_layOut_137 (fun a3 a4 A B => l_Txt_layOut_13 kxL f a3 a4 A B) kxL st (nI i) X Y)))))) := by
  rw [l_Txt_layOut_13, h.1 1 (by decide), hL, if_neg (nI_ge hi (by omega)), ixb_nI (by omega) (by decide), gd_t, cl_nI (by omega), h.1 2 (by decide), hl i hi, lt_e, h.2.1]
theorem lo_go (h36 : L ≤ 36) (hL : X0 1 1 = nI L) (hl : ∀ k, k < L → X0 2 k = l k) (h : RCS X0 σ X) {f i : Nat} {st : Int32} (hi : i < L) (hst : st = 0 ∨ st = 1) : l_Txt_layOut_13 kxL (f + 1) st (nI i) X Y = l_Txt_layOut_13 kxL f (sb st (l i)) (nI (i + 1)) X Y := by
  rw [lo_1 h36 hL hl h hi, lo_137 h36 hL hl h hi]
  rcases hst with rfl | rfl
  · rw [if_neg (show ¬ (0 : Int32) = 2 by decide), if_neg (show ¬ (0 : Int32) = 3 by decide), if_neg (show ¬ (0 : Int32) = 4 by decide), if_neg (show ¬ (0 : Int32) = 5 by decide), if_neg (show ¬ (0 : Int32) = 6 by decide)]
  · rw [if_neg (show ¬ (1 : Int32) = 2 by decide), if_neg (show ¬ (1 : Int32) = 3 by decide), if_neg (show ¬ (1 : Int32) = 4 by decide), if_neg (show ¬ (1 : Int32) = 5 by decide), if_neg (show ¬ (1 : Int32) = 6 by decide)]
theorem lo_2 (h36 : L ≤ 36) (hL : X0 1 1 = nI L) (hl : ∀ k, k < L → X0 2 k = l k) (h : RCS X0 σ X) {f i : Nat} (hi : i < L) (hp : σ.p < 6) : ∃ X', RCS X0 (σ.p + 1, σ.q, upd σ.kd σ.p (l i - 48), σ.wa, σ.sa, σ.sk) X' ∧ l_Txt_layOut_13 kxL (f + 1) 2 (nI i) X Y = l_Txt_layOut_13 kxL f (sb 2 (l i)) (nI (i + 1)) X' Y := by
  obtain ⟨X', a1, a2⟩ := c_addPan (Y := Y) h hp (l i - 48)
  refine ⟨X', a1, ?_⟩
  rw [lo_1 h36 hL hl h hi, if_pos rfl, a2, bv_rV]
  exact lo_137 h36 hL hl a1 hi
theorem lo_3 (h36 : L ≤ 36) (hL : X0 1 1 = nI L) (hl : ∀ k, k < L → X0 2 k = l k) {p : Nat} (h : RCS X0 σ X) {f i : Nat} (hi : i < L) (hσ : σ.p = p + 1) (hp : p < 6) : ∃ X', RCS X0 (σ.p, σ.q, σ.kd, upd σ.wa p (l i - 48), σ.sa, σ.sk) X' ∧ l_Txt_layOut_13 kxL (f + 1) 3 (nI i) X Y = l_Txt_layOut_13 kxL f (sb 3 (l i)) (nI (i + 1)) X' Y := by
  have a1 := c_wat h p (l i - 48)
  refine ⟨_, a1, ?_⟩
  rw [lo_1 h36 hL hl h hi, if_neg (show ¬ (3 : Int32) = 2 by decide), if_pos rfl, hσ, show nI (p + 1) - (1 : Int32) = nI p from pk_sub (a := p + 1) (b := 1) (by omega), c_lay (by rw [h.2.1, hσ]) hp, bv_rV]
  exact lo_137 h36 hL hl a1 hi
theorem lo_4 (h36 : L ≤ 36) (hL : X0 1 1 = nI L) (hl : ∀ k, k < L → X0 2 k = l k) {p : Nat} (h : RCS X0 σ X) {f i : Nat} (hi : i < L) (hσ : σ.p = p + 1) (hp : p < 6) : ∃ X', RCS X0 (σ.p, σ.q, σ.kd, σ.wa, upd σ.sa p (10 * (l i - 48)), σ.sk) X' ∧ l_Txt_layOut_13 kxL (f + 1) 4 (nI i) X Y = l_Txt_layOut_13 kxL f (sb 4 (l i)) (nI (i + 1)) X' Y := by
  have a1 := c_sal h p (10 * (l i - 48))
  refine ⟨_, a1, ?_⟩
  rw [lo_1 h36 hL hl h hi, if_neg (show ¬ (4 : Int32) = 2 by decide), if_neg (show ¬ (4 : Int32) = 3 by decide), if_pos rfl, hσ, show nI (p + 1) - (1 : Int32) = nI p from pk_sub (a := p + 1) (b := 1) (by omega), c_lay (by rw [h.2.1, hσ]) hp, bv_rV]
  exact lo_137 h36 hL hl a1 hi
theorem lo_5 (h36 : L ≤ 36) (hL : X0 1 1 = nI L) (hl : ∀ k, k < L → X0 2 k = l k) (h : RCS X0 σ X) {f i : Nat} (hi : i < L) (hq : σ.q < 5) : ∃ X', RCS X0 (adS σ (l i - 48)) X' ∧ l_Txt_layOut_13 kxL (f + 1) 5 (nI i) X Y = l_Txt_layOut_13 kxL f (sb 5 (l i)) (nI (i + 1)) X' Y := by
  obtain ⟨X', a1, a2⟩ := c_addSky (Y := Y) h hq (l i - 48)
  refine ⟨X', a1, ?_⟩
  rw [lo_1 h36 hL hl h hi, if_neg (show ¬ (5 : Int32) = 2 by decide), if_neg (show ¬ (5 : Int32) = 3 by decide), if_neg (show ¬ (5 : Int32) = 4 by decide), if_pos rfl, a2, bv_rV]
  exact lo_137 h36 hL hl a1 hi
theorem lo_6 (h36 : L ≤ 36) (hL : X0 1 1 = nI L) (hl : ∀ k, k < L → X0 2 k = l k) (h : RCS X0 σ X) {f i : Nat} (hi : i < L) (hq : σ.q < 5) : ∃ X', RCS X0 (adS σ (-(l i - 48))) X' ∧ l_Txt_layOut_13 kxL (f + 1) 6 (nI i) X Y = l_Txt_layOut_13 kxL f (sb 6 (l i)) (nI (i + 1)) X' Y := by
  obtain ⟨X', a1, a2⟩ := c_addSky (Y := Y) h hq (-(l i - 48))
  refine ⟨X', a1, ?_⟩
  rw [lo_1 h36 hL hl h hi, if_neg (show ¬ (6 : Int32) = 2 by decide), if_neg (show ¬ (6 : Int32) = 3 by decide), if_neg (show ¬ (6 : Int32) = 4 by decide), if_neg (show ¬ (6 : Int32) = 5 by decide), if_pos rfl, a2, bv_rV]
  exact lo_137 h36 hL hl a1 hi
end LO
theorem lo_rd {X0 : HI} {Y : HL} {L : Nat} {l : Pg} (h36 : L ≤ 36) (hL : X0 1 1 = nI L) (hl : ∀ k, k < L → X0 2 k = l k) : ∀ g f i (σ : St) (X : HI), L - i < g → L - i < f → i ≤ L → σ.p ≤ 6 → σ.q ≤ 5 → (rd l L g i σ).1 = -9 → RCS X0 σ X → ∃ X', RCS X0 (rd l L g i σ).2 X' ∧ l_Txt_layOut_13 kxL f 1 (nI i) X Y = rV X' Y := by
  intro g
  induction g with
  | zero => intro f i σ X h; omega
  | succ g ih =>
    intro f i σ X h hf hiL hp hq h9 hX
    obtain ⟨f, rfl⟩ : ∃ f', f = f' + 1 := ⟨f - 1, by omega⟩
    by_cases hi : L ≤ i
    · refine ⟨X, by rw [rd_end hi]; exact hX, ?_⟩
      rw [l_Txt_layOut_13, hX.1 1 (by decide), hL, if_pos (nI_le hi (by omega))]
      rfl
    · have hi' : i < L := by omega
      cases hs : stp l L i σ with
      | mk pos o =>
        cases o with
        | none =>
          exfalso
          rw [rd_no hi hs] at h9
          have pb := stp_no hs
          have e := congrArg Int32.toInt h9
          rw [show (nI pos, σ).1.toInt = (nI pos).toInt from rfl, nI_toInt (by omega), show (-9 : Int32).toInt = -9 from by decide] at e
          omega
        | some σ' =>
          rw [rd_so hi hs] at h9 ⊢
          obtain ⟨p1, p2, hc⟩ := stp_so hs
          obtain ⟨p3, p4⟩ := stp_pq hs hp hq
          rw [lo_go h36 hL hl hX hi' (Or.inr rfl)]
          rcases hc with ⟨hN, h6, d1, d2, d3, e1, e2⟩ | ⟨hR, h5, d1, e1, e2⟩ | ⟨hS, h5, d1, e1, e2⟩
          · obtain ⟨y1, z1⟩ := dg_y d1
            obtain ⟨y2, z2⟩ := dg_y d2
            obtain ⟨y3, z3⟩ := dg_y d3
            obtain ⟨f, rfl⟩ : ∃ f', f = f' + 3 := ⟨f - 3, by omega⟩
            rw [show sb 1 (l i) = 2 from by show (if l i = 78 then (2 : Int32) else if l i = 82 then 6 else if l i = 83 then 5 else 7) = 2; rw [if_pos hN]]
            obtain ⟨X1, a1, b1⟩ := lo_2 (Y := Y) h36 hL hl hX (f := f + 2) y1 h6
            rw [show sb 2 (l (i + 1)) = 3 from by show (if ft (l (i + 1)) 48 51 then (3 : Int32) else 7) = 3; rw [z1, if_pos rfl]] at b1
            obtain ⟨X2, a2, b2⟩ := lo_3 (Y := Y) h36 hL hl (p := σ.p) a1 (f := f + 1) y2 rfl h6
            rw [show sb 3 (l (i + 2)) = 4 from by show (if ft (l (i + 2)) 48 54 then (4 : Int32) else 7) = 4; rw [z2, if_pos rfl]] at b2
            obtain ⟨X3, a3, b3⟩ := lo_4 (Y := Y) h36 hL hl (p := σ.p) a2 (f := f) y3 rfl h6
            rw [show sb 4 (l (i + 3)) = 1 from by show (if ft (l (i + 3)) 48 57 then (1 : Int32) else 7) = 1; rw [z3, if_pos rfl]] at b3
            rw [b1, show i + 1 + 1 = i + 2 from rfl, b2, show i + 2 + 1 = i + 3 from rfl, b3]
            subst e2
            subst e1
            exact ih f (i + 4) _ X3 (by omega) (by omega) p2 p3 p4 h9 a3
          · obtain ⟨y1, z1⟩ := dg_y d1
            obtain ⟨f, rfl⟩ : ∃ f', f = f' + 1 := ⟨f - 1, by omega⟩
            rw [show sb 1 (l i) = 6 from by show (if l i = 78 then (2 : Int32) else if l i = 82 then 6 else if l i = 83 then 5 else 7) = 6; rw [if_neg (by rw [hR]; decide), if_pos hR]]
            obtain ⟨X1, a1, b1⟩ := lo_6 (Y := Y) h36 hL hl hX (f := f) y1 h5
            rw [show sb 6 (l (i + 1)) = 1 from by show (if ft (l (i + 1)) 49 52 then (1 : Int32) else 7) = 1; rw [z1, if_pos rfl]] at b1
            rw [b1]
            subst e2
            subst e1
            exact ih f (i + 2) _ X1 (by omega) (by omega) p2 p3 p4 h9 a1
          · obtain ⟨y1, z1⟩ := dg_y d1
            obtain ⟨f, rfl⟩ : ∃ f', f = f' + 1 := ⟨f - 1, by omega⟩
            rw [show sb 1 (l i) = 5 from by show (if l i = 78 then (2 : Int32) else if l i = 82 then 6 else if l i = 83 then 5 else 7) = 5; rw [if_neg (by rw [hS]; decide), if_neg (by rw [hS]; decide), if_pos hS]]
            obtain ⟨X1, a1, b1⟩ := lo_5 (Y := Y) h36 hL hl hX (f := f) y1 h5
            rw [show sb 5 (l (i + 1)) = 1 from by show (if ft (l (i + 1)) 48 52 then (1 : Int32) else 7) = 1; rw [z1, if_pos rfl]] at b1
            rw [b1]
            subst e2
            subst e1
            exact ih f (i + 2) _ X1 (by omega) (by omega) p2 p3 p4 h9 a1
-- what stays of what is read
def SI (kd0 sk0 : Pg) (σ : St) : Prop := σ.p ≤ 6 ∧ σ.q ≤ 5 ∧ okS4 σ.sk ∧ (∀ j, j < 6 → (0 ≤ (σ.wa j).toInt ∧ (σ.wa j).toInt ≤ 9) ∧ 0 ≤ (σ.sa j).toInt ∧ (σ.sa j).toInt ≤ 999) ∧ (∀ j, σ.p ≤ j → σ.wa j = 0 ∧ σ.sa j = 0 ∧ σ.kd j = kd0 j) ∧ (∀ j, σ.q ≤ j → σ.sk j = sk0 j)
theorem dg_b {l : Pg} {L i : Nat} {A B : Int32} (hl : lok l L) (hd : dgB l L i A B = true) : A.toInt - 48 ≤ (l i - 48).toInt ∧ (l i - 48).toInt ≤ B.toInt - 48 := by
  obtain ⟨d1, d2⟩ := dg_y hd
  have lb := hl.2 i d1
  have h48 : (48 : Int32).toInt = 48 := by decide
  unfold ft at d2
  rw [Bool.and_eq_true, Bool.not_eq_true', Bool.not_eq_true', decide_eq_false_iff_not, decide_eq_false_iff_not, i_lt, i_lt] at d2
  rw [i_sub (by rw [h48]; omega) (by rw [h48]; omega), h48]
  omega
theorem SI_P {kd0 sk0 : Pg} {σ : St} (h : SI kd0 sk0 σ) (hp : σ.p < 6) {k w s : Int32} (hw : 0 ≤ w.toInt ∧ w.toInt ≤ 9) (hs : 0 ≤ s.toInt ∧ s.toInt ≤ 999) : SI kd0 sk0 (adP σ k w s) := by
  obtain ⟨h1, h2, h3, h4, h5, h6⟩ := h
  refine ⟨by show σ.p + 1 ≤ 6; omega, h2, h3, ?_, ?_, h6⟩
  · intro j hj
    show (0 ≤ (upd σ.wa σ.p w j).toInt ∧ (upd σ.wa σ.p w j).toInt ≤ 9) ∧ 0 ≤ (upd σ.sa σ.p s j).toInt ∧ (upd σ.sa σ.p s j).toInt ≤ 999
    by_cases hjp : j = σ.p
    · subst hjp; rw [upd_s, upd_s]; exact ⟨hw, hs⟩
    · rw [upd_n _ _ hjp, upd_n _ _ hjp]; exact h4 j hj
  · intro j hj
    have hj' : σ.p + 1 ≤ j := hj
    show upd σ.wa σ.p w j = 0 ∧ upd σ.sa σ.p s j = 0 ∧ upd σ.kd σ.p k j = kd0 j
    rw [upd_n _ _ (by omega), upd_n _ _ (by omega), upd_n _ _ (by omega)]
    exact h5 j (by omega)
theorem SI_S {kd0 sk0 : Pg} {σ : St} (h : SI kd0 sk0 σ) (hq : σ.q < 5) {v : Int32} (hv : -4 ≤ v.toInt ∧ v.toInt ≤ 4) : SI kd0 sk0 (adS σ v) := by
  obtain ⟨h1, h2, h3, h4, h5, h6⟩ := h
  refine ⟨h1, by show σ.q + 1 ≤ 5; omega, ?_, h4, h5, ?_⟩
  · intro j hj
    show -4 ≤ (upd σ.sk σ.q v j).toInt ∧ (upd σ.sk σ.q v j).toInt ≤ 4
    by_cases hjp : j = σ.q
    · subst hjp; rw [upd_s]; exact hv
    · rw [upd_n _ _ hjp]; exact h3 j hj
  · intro j hj
    have hj' : σ.q + 1 ≤ j := hj
    show upd σ.sk σ.q v j = sk0 j
    rw [upd_n _ _ (by omega)]
    exact h6 j (by omega)
theorem rd_SI {l : Pg} {L : Nat} {kd0 sk0 : Pg} (hl : lok l L) : ∀ g i (σ : St), SI kd0 sk0 σ → SI kd0 sk0 (rd l L g i σ).2 := by
  intro g
  induction g with
  | zero => intro i σ h; exact h
  | succ g ih =>
    intro i σ h
    by_cases hi : L ≤ i
    · rw [rd_end hi]; exact h
    · cases hs : stp l L i σ with
      | mk pos o =>
        cases o with
        | none => rw [rd_no hi hs]; exact h
        | some σ' =>
          rw [rd_so hi hs]
          obtain ⟨_, _, hc⟩ := stp_so hs
          apply ih
          rcases hc with ⟨hN, h6, d1, d2, d3, e1, rfl⟩ | ⟨hR, h5, d1, e1, rfl⟩ | ⟨hS, h5, d1, e1, rfl⟩
          · have b2 := dg_b hl d2
            have b3 := dg_b hl d3
            rw [show (48 : Int32).toInt = 48 from by decide, show (54 : Int32).toInt = 54 from by decide] at b2
            rw [show (48 : Int32).toInt = 48 from by decide, show (57 : Int32).toInt = 57 from by decide] at b3
            have h10 : (10 : Int32).toInt = 10 := by decide
            exact SI_P h h6 (by omega) (by rw [i_mul (by rw [h10]; omega) (by rw [h10]; omega), h10]; omega)
          · have b1 := dg_b hl d1
            rw [show (49 : Int32).toInt = 49 from by decide, show (52 : Int32).toInt = 52 from by decide] at b1
            exact SI_S h h5 (by rw [neg_b (by omega) (by omega)]; omega)
          · have b1 := dg_b hl d1
            rw [show (48 : Int32).toInt = 48 from by decide, show (52 : Int32).toInt = 52 from by decide] at b1
            exact SI_S h h5 (by omega)
