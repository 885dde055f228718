/-! day, sea, let, turn, rake, undo -/
theorem okZ_upd {n : Nat} {g : Pg} (h : okZ n g) (hn : n ≤ 6) {c : Nat} (v : Int32) (hc : c < n ∨ (6 ≤ c ∧ c < 6 + n) ∨ 12 ≤ c) : okZ n (upd g c v) := by
  intro k h1 h2
  rw [upd_n _ _ (by omega), upd_n _ _ (by omega)]
  exact h k h1 h2
theorem okZ_dr {n : Nat} {g : Pg} (h : okZ n g) (hn : n ≤ 6) {k : Nat} (hk : k < n) (x : Int32) : okZ n (drP g k x) := okZ_upd (okZ_upd h hn _ (Or.inl hk)) hn _ (Or.inr (Or.inl (by omega)))
theorem okZ_fl {n : Nat} {g : Pg} (h : okZ n g) (hn : n ≤ 6) {k : Nat} (hk : k < n) (x s : Int32) : okZ n (flP g k x s) := okZ_upd (okZ_upd h hn _ (Or.inl hk)) hn _ (Or.inr (Or.inl (by omega)))
theorem okZ_letR {n : Nat} {kd g : Pg} (h : okZ n g) (hn : n ≤ 6) {k : Nat} (hk : k + 1 < n) (x : Int32) : okZ n (letR kd g k x).2 := by
  unfold letR
  split
  · exact h
  · split
    · exact h
    · split
      · exact h
      · exact okZ_fl (okZ_dr h hn (by omega) x) hn hk x _
theorem okZ_lg {n : Nat} {kd g : Pg} (h : okZ n g) (hn : n ≤ 6) : ∀ i, i ≤ n - 1 → okZ n (lgP kd g i)
  | 0, _ => h
  | i + 1, hi => by
    rw [lgP]
    unfold stL
    split
    · exact okZ_letR (okZ_lg h hn i (by omega)) hn (by omega) 1
    · exact okZ_lg h hn i (by omega)
theorem okZ_lk {n : Nat} {kd g : Pg} (h : okZ n g) (hn : n ≤ 6) : ∀ i, i ≤ n → okZ n (lkP kd g i)
  | 0, _ => h
  | i + 1, hi => by
    have ih := okZ_lk (kd := kd) h hn i (by omega)
    rw [lkP]
    unfold stK
    split
    · split
      · exact okZ_dr ih hn (by omega) 1
      · exact ih
    · exact ih
theorem okZ_rai {n : Nat} {kd g : Pg} (h : okZ n g) (hn : n ≤ 6) (e : Int32) : ∀ i, i ≤ n → okZ n (raiP kd g e i)
  | 0, _ => h
  | i + 1, hi => okZ_upd (okZ_rai h hn e i (by omega)) hn _ (Or.inl (by omega))
theorem okZ_shi {n : Nat} {kd g : Pg} (h : okZ n g) (hn : n ≤ 6) (e : Int32) : ∀ i, i ≤ n → okZ n (shiP kd g e i)
  | 0, _ => h
  | i + 1, hi => okZ_upd (okZ_shi h hn e i (by omega)) hn _ (Or.inl (by omega))
theorem okZ_day {n m : Nat} {kd sk g : Pg} (h : okZ n g) (hn : n ≤ 6) (c : Bool) : okZ n (dayP n m kd sk g c) := by
  unfold dayP skyP
  have hq := okZ_lk (kd := kd) (okZ_lg (kd := kd) h hn (n - 1) (by omega)) hn n (by omega)
  refine okZ_upd ?_ hn _ (Or.inr (Or.inr (by omega)))
  split
  · split
    · exact hq
    · split
      · exact hq
      · exact okZ_shi hq hn _ n (by omega)
  · exact okZ_rai hq hn _ n (by omega)
theorem gp_day {n m T : Nat} {kd sk g : Pg} (hn : n ≤ 6) (hm : m ≤ 5) (hs : okS4 sk) (h : gp n T g) : gp n (T + 1) (dayP n m kd sk g false) := by
  obtain ⟨h1, h2, t, h3, h4⟩ := h
  exact ⟨okG_day hn hm hs h1 false, okZ_day h2 hn false, t + 1, by omega, by rw [dayP_14, h4, nI_up]⟩
theorem gp_let {n T : Nat} {kd g : Pg} (hn : n ≤ 6) (h : gp n T g) {k : Nat} (hk : k + 1 < n) (x : Int32) : gp n T (letR kd g k x).2 := by
  obtain ⟨h1, h2, t, h3, h4⟩ := h
  exact ⟨okG_letR h1 (by omega) x, okZ_letR h2 hn hk x, t, h3, by rw [letR_hi _ _ _ _ (by omega) (by omega)]; exact h4⟩
theorem seaR_hi (kd g : Pg) (x : Int32) {j : Nat} (hj : 12 ≤ j) : (seaR kd g x).2 j = g j := by
  unfold seaR
  split
  · rfl
  · split
    · rfl
    · exact flP_hi _ _ _ _ (by omega) hj
theorem gp_sea {n T : Nat} {kd g : Pg} (hn : n ≤ 6) (h0 : 0 < n) (h : gp n T g) (x : Int32) : gp n T (seaR kd g x).2 := by
  obtain ⟨h1, h2, t, h3, h4⟩ := h
  refine ⟨okG_seaR h1 x, ?_, t, h3, by rw [seaR_hi _ _ _ (by omega)]; exact h4⟩
  unfold seaR
  split
  · exact h2
  · split
    · exact h2
    · exact okZ_fl h2 hn h0 x _
theorem gp_ra {n T : Nat} {g : Pg} (hn : n ≤ 6) (h : gp n T g) {k : Nat} (hk : k < n) : gp n T (raP g k) := by
  obtain ⟨h1, h2, t, h3, h4⟩ := h
  refine ⟨okG_ra h1 (by omega), okZ_upd (okZ_upd h2 hn _ (Or.inr (Or.inl (by omega)))) hn _ (Or.inr (Or.inr (by omega))), t, h3, ?_⟩
  unfold raP
  rw [upd_n _ _ (by omega), upd_n _ _ (by omega)]
  exact h4
theorem gp_tu {n T : Nat} {g : Pg} (hn : n ≤ 6) (h : gp n T g) (v : Int32) : gp n T (upd g 12 v) := by
  obtain ⟨h1, h2, t, h3, h4⟩ := h
  exact ⟨okG_tu h1 v, okZ_upd h2 hn _ (Or.inr (Or.inr (by omega))), t, h3, by rw [upd_n _ _ (by omega)]; exact h4⟩
theorem s_add {X : HI} {Y : HL} {c nx : Nat} (hc : c ≤ 14) (hnx : nx < 14) (h1 : X 6 1 = nI nx) (h2 : X 6 2 = nI c) : f_Act_add X Y = rV (up (up (setC X (28 + 3 * nx) (pgC X 16)) 6 1 (nI ((nx + 1) % 14))) 6 2 (nI (if c = 14 then 14 else c + 1))) Y := by
  have hr := isP_ring hnx
  have r7 : rA 7 nx = 28 + 3 * nx := if_pos rfl
  unfold f_Act_add
  have e6 : setC X (28 + 3 * nx) (pgC X 16) 6 = X 6 := setC_lo hr (by decide)
  rw [h1, ixb_nI hnx (by decide), gd_t, cl_nI (by omega), r7, s_copy hr isP_16 (by omega), bv_rV, show nzb (14 : Int32) = true from by decide, gd_t, lh_e, e6, h1, nI_up, show (14 : Int32) = nI 14 from rfl, pk_rem (by omega) (by omega) (by omega), lh_e, up_an _ _ _ _ (by decide), e6, h2, nI_up]
  congr 2
  by_cases h : c = 14
  · subst h; decide
  · rw [if_neg h]
    by_cases h3 : c = 13
    · subst h3; decide
    · rw [if_pos (nI_lt (by omega) (by omega))]
theorem act {T n m : Nat} {X : HI} {Y : HL} {g' : Pg} (hg : Rg n m X) (ht : Rt X) (hp : Rp n T X) (hh : Rh n T X) (hk : Rk n T X) (hf : Rf X) (hy : Y 0 = Y 70) (hgp : gp n (T + 1) g') :
    ∃ X1, (∀ r : Int32, ¬ r < 0 → f_Bri_settle r (setC X 19 g') Y = rI r X1 Y) ∧ EM n m (X 72) (X 73) (up X1 70 0 0) ∧ up X1 70 0 0 76 = X 76 ∧ ∃ Xn, f_Mod_note (up X1 70 0 0) Y = rV Xn Y ∧ Xn 76 = X 76 ∧ EM n m (X 72) (X 73) Xn ∧ Rel (T + 1) (setM Xn 76 g') Y := by
  obtain ⟨c, nx, hc, hnx, h3, h4, h5, h6⟩ := hh
  have hr := isP_ring hnx
  generalize hXA : up (up (setC (setC X 19 g') (28 + 3 * nx) (pgC X 16)) 6 1 (nI ((nx + 1) % 14))) 6 2 (nI (if c = 14 then 14 else c + 1)) = XA
  have s6 : setC X 19 g' 6 = X 6 := setC_lo isP_19 (by decide)
  have p16 : pgC (setC X 19 g') 16 = pgC X 16 := pgC_o isP_19 isP_16 (by decide)
  have hadd : f_Act_add (setC X 19 g') Y = rV XA Y := by
    rw [s_add hc hnx (by rw [s6]; exact h4) (by rw [s6]; exact h3), p16, hXA]
  have hp19 : ∀ k, k < 15 → pgC XA 19 k = g' k := by
    intro k hk
    rw [← hXA, pgC_up (by omega), pgC_up (by omega), pgC_o hr isP_19 (by omega), pgC_setC hk]
  have rowA : ∀ b, b ≠ 6 → b ≠ 19 → b ≠ 20 → b ≠ 21 → b ≠ 28 + 3 * nx → b ≠ 28 + 3 * nx + 1 → b ≠ 28 + 3 * nx + 2 → XA b = X b := by
    intro b b1 b2 b3 b4 b5 b6 b7
    rw [← hXA, up_ne _ _ _ b1, up_ne _ _ _ b1, setC_o b5 b6 b7, setC_o b2 b3 b4]
  refine ⟨setC XA 16 g', ?_, ?_, ?_, ?_⟩
  · intro r hr0
    unfold f_Bri_settle
    rw [if_neg hr0, hadd, bv_rV, s_copy isP_16 isP_19 (by decide), bv_rV, setC_ext hp19]
  · have hM := hg.em
    unfold EM
    rw [up_an _ _ _ _ (by decide), up_an _ _ _ _ (by decide), up_ne _ _ _ (by decide : (72 : Nat) ≠ 70), up_ne _ _ _ (by decide : (73 : Nat) ≠ 70), setC_hi isP_16 (by decide), setC_hi isP_16 (by decide), setC_hi isP_16 (by decide), rowA 70 (by decide) (by decide) (by decide) (by decide) (by omega) (by omega) (by omega), rowA 72 (by decide) (by decide) (by decide) (by decide) (by omega) (by omega) (by omega), rowA 73 (by decide) (by decide) (by decide) (by decide) (by omega) (by omega) (by omega)]
    exact hM
  · rw [up_ne _ _ _ (by decide), setC_hi isP_16 (by decide), rowA 76 (by decide) (by decide) (by decide) (by decide) (by omega) (by omega) (by omega)]
  · generalize hXb : up (setC XA 16 g') 70 0 0 = Xb
    have rowB : ∀ b, b ≠ 6 → b ≠ 16 → b ≠ 17 → b ≠ 18 → b ≠ 19 → b ≠ 20 → b ≠ 21 → b ≠ 28 + 3 * nx → b ≠ 28 + 3 * nx + 1 → b ≠ 28 + 3 * nx + 2 → b ≠ 70 → Xb b = X b := by
      intro b b1 c1 c2 c3 b2 b3 b4 b5 b6 b7 b8
      rw [← hXb, up_ne _ _ _ b8, setC_o c1 c2 c3]
      exact rowA b b1 b2 b3 b4 b5 b6 b7
    have b70 : ∀ k, k ≠ 0 → Xb 70 k = X 70 k := by
      intro k hk0
      rw [← hXb, up_an _ _ _ _ hk0, setC_hi isP_16 (by decide), rowA 70 (by decide) (by decide) (by decide) (by decide) (by omega) (by omega) (by omega)]
    have b6 : Xb 6 = XA 6 := by rw [← hXb, up_ne _ _ _ (by decide), setC_lo isP_16 (by decide)]
    have b61 : Xb 6 1 = nI ((nx + 1) % 14) := by rw [b6, ← hXA, up_an _ _ _ _ (by decide), up_at]
    have b62 : Xb 6 2 = nI (if c = 14 then 14 else c + 1) := by rw [b6, ← hXA, up_at]
    have b16 : ∀ k, k < 15 → pgC Xb 16 k = g' k := by
      intro k hk
      rw [← hXb, pgC_up (by omega), pgC_setC hk]
    have bring : ∀ j, j < 14 → pgC Xb (28 + 3 * j) = if j = nx then pgC (setC (setC X 19 g') (28 + 3 * nx) (pgC X 16)) (28 + 3 * nx) else pgC X (28 + 3 * j) := by
      intro j hj
      rw [← hXb, pgC_up (by omega), pgC_o isP_16 (isP_ring hj) (by omega), ← hXA, pgC_up (by omega), pgC_up (by omega)]
      by_cases e : j = nx
      · subst e; rw [if_pos rfl]
      · rw [if_neg e, pgC_o hr (isP_ring hj) (by omega), pgC_o isP_19 (isP_ring hj) (by omega)]
    obtain ⟨Xn, n1, n2, n3, n4, n5⟩ := m_note (X := Xb) (Y := Y) hc (by rw [b70 15 (by decide)]; exact h5)
    have b76 : Xb 76 = X 76 := rowB 76 (by decide) (by decide) (by decide) (by decide) (by decide) (by decide) (by decide) (by omega) (by omega) (by omega) (by decide)
    have b78 : Xb 78 = X 78 := rowB 78 (by decide) (by decide) (by decide) (by decide) (by decide) (by decide) (by decide) (by omega) (by omega) (by omega) (by decide)
    have rowN : ∀ b, b ≠ 6 → b ≠ 16 → b ≠ 17 → b ≠ 18 → b ≠ 19 → b ≠ 20 → b ≠ 21 → b ≠ 28 + 3 * nx → b ≠ 28 + 3 * nx + 1 → b ≠ 28 + 3 * nx + 2 → b ≠ 70 → b ≠ 76 → b ≠ 78 → setM Xn 76 g' b = X b := by
      intro b b1 c1 c2 c3 b2 b3 b4 b5 b6 b7 b8 b9 b10
      rw [setM_o b9, n2 b b8 b10]
      exact rowB b b1 c1 c2 c3 b2 b3 b4 b5 b6 b7 b8
    have m70 : ∀ k, k ≠ 0 → k ≠ 15 → setM Xn 76 g' 70 k = X 70 k := by
      intro k hk0 hk15
      rw [setM_o (by decide), n3 k hk15, b70 k hk0]
    refine ⟨Xn, n1, ?_, ?_, ?_⟩
    · rw [n2 76 (by decide) (by decide), b76]
    · have hM := hg.em
      unfold EM
      rw [n3 4 (by decide), n3 6 (by decide), b70 4 (by decide), b70 6 (by decide), n2 72 (by decide) (by decide), n2 73 (by decide) (by decide), rowB 72 (by decide) (by decide) (by decide) (by decide) (by decide) (by decide) (by decide) (by omega) (by omega) (by omega) (by decide), rowB 73 (by decide) (by decide) (by decide) (by decide) (by decide) (by decide) (by decide) (by omega) (by omega) (by omega) (by decide)]
      exact hM
    · refine ⟨n, m, hg.cg ?_ (m70 4 (by decide) (by decide)) (m70 6 (by decide) (by decide)), ht.cg ?_ (m70 2 (by decide) (by decide)), ?_, ?_, (hk.cg ?_).mono (by omega), hf.cg ?_ (m70 18 (by decide) (by decide)), hy⟩
      · intro b hb; exact rowN b (by omega) (by omega) (by omega) (by omega) (by omega) (by omega) (by omega) (by omega) (by omega) (by omega) (by omega) (by omega) (by omega)
      · intro b hb; exact rowN b (by omega) (by omega) (by omega) (by omega) (by omega) (by omega) (by omega) (by omega) (by omega) (by omega) (by omega) (by omega) (by omega)
      · refine ⟨fun k hk => ?_, hgp.ext (fun k hk => (setM_s hk).symm)⟩
        rw [pgC_M (by omega), setM_s hk, pgC_row (n2 16 (by decide) (by decide)) (n2 17 (by decide) (by decide)) (n2 18 (by decide) (by decide)), b16 k hk]
      · refine ⟨if c = 14 then 14 else c + 1, (nx + 1) % 14, by split <;> omega, Nat.mod_lt _ (by decide), ?_, ?_, ?_, fun j hj => ?_⟩
        · rw [setM_o (by decide), n2 6 (by decide) (by decide), b62]
        · rw [setM_o (by decide), n2 6 (by decide) (by decide), b61]
        · rw [setM_o (by decide), n4]
        · have e78 : setM Xn 76 g' 78 = Xn 78 := setM_o (by decide)
          have hidx : (((nx + 1) % 14 + 14 - (if c = 14 then 14 else c + 1) + j) % 14) < 14 := Nat.mod_lt _ (by decide)
          generalize hi : (((nx + 1) % 14 + 14 - (if c = 14 then 14 else c + 1) + j) % 14) = i at hidx
          have er : pgC (setM Xn 76 g') (28 + 3 * i) = pgC Xb (28 + 3 * i) := by
            rw [pgC_M (by omega), pgC_row (n2 _ (by omega) (by omega)) (n2 _ (by omega) (by omega)) (n2 _ (by omega) (by omega))]
          rw [e78, er, bring i hidx]
          by_cases hj2 : j = (if c = 14 then 13 else c)
          · have ei : i = nx := by
              by_cases h : c = 14
              · rw [if_pos h] at hi hj2; omega
              · rw [if_neg h] at hi hj2; omega
            rw [if_pos ei]
            have e7 : ∀ k, k < 15 → Xn 78 (15 * j + k) = X 76 k := fun k hk => by rw [(n5 j k hk).2 hj2, b76]
            refine ⟨fun k hk => ?_, (hp.2.mono (by omega : T ≤ T + 1)).ext (fun k hk => (e7 k hk).symm)⟩
            rw [e7 k hk, pgC_setC hk]
            exact hp.1 k hk
          · have hj3 : j < (if c = 14 then 13 else c) := by
              by_cases h : c = 14
              · rw [if_pos h] at hj hj2 ⊢; omega
              · rw [if_neg h] at hj hj2 ⊢; omega
            have ei : i ≠ nx := by
              by_cases h : c = 14
              · rw [if_pos h] at hi hj3; omega
              · rw [if_neg h] at hi hj3; omega
            rw [if_neg ei]
            have e7 : ∀ k, k < 15 → Xn 78 (15 * j + k) = X 78 (15 * (if c = 14 then j + 1 else j) + k) := fun k hk => by rw [(n5 j k hk).1 hj3, b78]
            obtain ⟨q1, q2⟩ := h6 (if c = 14 then j + 1 else j) (by
              by_cases h : c = 14
              · rw [if_pos h] at hj3 ⊢; omega
              · rw [if_neg h] at hj3 ⊢; omega)
            have ei2 : (nx + 14 - c + (if c = 14 then j + 1 else j)) % 14 = i := by
              by_cases h : c = 14
              · rw [if_pos h] at hi ⊢; omega
              · rw [if_neg h] at hi ⊢; omega
            rw [ei2] at q1
            refine ⟨fun k hk => ?_, (q2.mono (by omega : T ≤ T + 1)).ext (fun k hk => (e7 k hk).symm)⟩
            rw [e7 k hk]
            exact q1 k hk
      · intro b hb; exact rowN b (by omega) (by omega) (by omega) (by omega) (by omega) (by omega) (by omega) (by omega) (by omega) (by omega) (by omega) (by omega) (by omega)
      · intro b hb; exact rowN b (by omega) (by omega) (by omega) (by omega) (by omega) (by omega) (by omega) (by omega) (by omega) (by omega) (by omega) (by omega) (by omega)
theorem crA_b {g : Pg} (h : okG g) : ∀ n, n ≤ 6 → 0 ≤ (crA g n).toInt ∧ (crA g n).toInt ≤ 999 * n
  | 0, _ => by rw [crA, i0]; omega
  | n + 1, hn => by
    have ih := crA_b h n (by omega)
    have hc := crP_b h (show n < 6 by omega)
    rw [crA, i_add (by omega) (by omega)]
    omega
theorem settle_neg {X : HI} {Y : HL} {r : Int32} (h : r < 0) : f_Bri_settle r X Y = rI r X Y := by
  unfold f_Bri_settle
  rw [if_pos h]
/-- a refused act -/
theorem act_no {T : Nat} {X : HI} {Y : HL} (hR : Rel T X Y) (g' : Pg) : Rel (T + 1) (up (setC X 19 g') 70 0 0) Y := ((hR.same (smX_C X g')).same (thr _)).mono (by omega)
theorem nneg {r : Int32} (h : 0 ≤ r.toInt) : ¬ r < 0 := by rw [i_lt, i0]; omega
theorem row_M {X : HI} {g : Pg} (h : X 76 = g) : setM X 76 g = X := by subst h; exact now_M X
theorem ok_day : Ok (fun X Y => f_Bri_day X Y) (fun X Y => f_Mod_day X Y) := by
  intro T X Y hT hR
  obtain ⟨n, m, hg, ht, hp, hh, hk, hf, hy⟩ := id hR
  obtain ⟨hE, h4, h6, hs4⟩ := id hg
  have n6 := hE.2.2.1
  have m5 := hE.2.2.2.1
  obtain ⟨hok, hz, t, htT, h14⟩ := id hp.2
  have hgp := gp_day (kd := X 72) n6 m5 hs4 hp.2
  obtain ⟨X1, a1, a2, a3, Xn, b1, b2, b3, b4⟩ := act hg ht hp hh hk hf hy hgp
  have hb := crA_b hgp.1 n n6
  refine ⟨crA (dayP n m (X 72) (X 73) (X 76) false) n, X1, Y, _, Y, ?_, ?_, b4⟩
  · show f_Bri_day X Y = _
    unfold f_Bri_day
    have e := s_passDay (Y := Y) isP_19 hE (t := t) (by omega) h14 0
    rw [show (!decide ((0 : Int32) = 0)) = false from by decide] at e
    rw [s_fromNow hp.1, br_rR, e, bv_rV, s_crustOfAll isP_19 hE, bi_rI, a1 _ (nneg hb.1), bi_rI]
  · show f_Mod_day X1 Y = _
    unfold f_Mod_day
    have e := m_goDay (a := 76) (Y := Y) (Or.inl rfl) b3 (t := t) (by omega) h14 false
    rw [if_neg (by decide), dayM_eq n6 m5 hs4 hok, row_M b2] at e
    rw [lh_e, b1, bv_rV, e, bv_rV, m_crustOfAll (Or.inl rfl) b3, bi_rI]
theorem ok_sea (x : Int32) : Ok (fun X Y => f_Bri_sea x X Y) (fun X Y => f_Mod_sea x X Y) := by
  intro T X Y hT hR
  obtain ⟨n, m, hg, ht, hp, hh, hk, hf, hy⟩ := id hR
  obtain ⟨hE, h4, h6, hs4⟩ := id hg
  have n6 := hE.2.2.1
  obtain ⟨hok, hz, t, htT, h14⟩ := id hp.2
  have hM := hg.em
  have s1 := smX_C X (X 76)
  have s2 := s1.tr (thr (setC X 19 (X 76)))
  have hM2 := hM.same s2
  have e76 := s2.p76
  have gen : ∀ r : Int32, r < 0 → f_Pan_takeSea 19 x (setC X 19 (X 76)) Y = rI r (setC X 19 (X 76)) Y → f_Mod_sea x (setC X 19 (X 76)) Y = rI r (up (setC X 19 (X 76)) 70 0 0) Y → ∃ r X1 Y1 X2 Y2, f_Bri_sea x X Y = rI r X1 Y1 ∧ f_Mod_sea x X1 Y1 = rI r X2 Y2 ∧ Rel (T + 1) X2 Y2 := by
    intro r hr hc hm
    refine ⟨r, _, Y, _, Y, ?_, hm, act_no hR _⟩
    unfold f_Bri_sea
    rw [s_fromNow hp.1, br_rR, hc, bi_rI, settle_neg hr, bi_rI]
  by_cases hn : n = 0
  · refine gen (-1) (by decide) (s_takeSeaN isP_19 hE hn x) ?_
    unfold f_Mod_sea
    rw [lh_e, hM2.1, hn, if_pos (show nI 0 = 0 from rfl)]
  · have hne : ¬ nI n = 0 := nI_ne0 (by omega) (by omega)
    have hsea := s_takeSea (Y := Y) (g := X 76) isP_19 hE (by omega : 0 < n) x
    unfold seaR at hsea
    cases hx : ft x 1 9 with
    | false =>
      rw [if_pos hx] at hsea
      refine gen (-2) (by decide) hsea ?_
      unfold f_Mod_sea
      rw [lh_e, hM2.1, if_neg hne, m_inN2 (a := 1) (b := 9) (by decide) (by decide) hx, bi_rI, if_pos z00]
    | true =>
      have hb := ft_b hx
      have er := m_room (a := 76) (k := 0) (Y := Y) (g := X 76) (Or.inl rfl) hM2 (by omega)
      rw [row_M e76] at er
      rw [show nI 0 = (0 : Int32) from rfl] at er
      rw [if_neg (by rw [hx]; decide)] at hsea
      by_cases h3 : rmP (X 72) (X 76) 0 < x
      · rw [if_pos h3] at hsea
        refine gen (-4) (by decide) hsea ?_
        unfold f_Mod_sea
        rw [lh_e, hM2.1, if_neg hne, m_inY2 (a := 1) (b := 9) (by decide) (by decide) hx, bi_rI, if_neg n10, er, bi_rI, if_neg (by rw [i_le]; rw [i_lt] at h3; omega)]
      · rw [if_neg h3] at hsea
        have hgp := (gp_sea (kd := X 72) n6 (by omega) hp.2 x).mono (by omega : T ≤ T + 1)
        unfold seaR at hgp
        rw [if_neg (by rw [hx]; decide), if_neg h3] at hgp
        obtain ⟨X1, a1, a2, a3, Xn, b1, b2, b3, b4⟩ := act hg ht hp hh hk hf hy hgp
        obtain ⟨⟨c1, c2⟩, _⟩ := hok 0 (by omega)
        have er2 := m_room (a := 76) (k := 0) (Y := Y) (g := X 76) (Or.inl rfl) a2 (by omega)
        rw [row_M a3] at er2
        rw [show nI 0 = (0 : Int32) from rfl] at er2
        refine ⟨X 76 0 + x, X1, Y, _, Y, ?_, ?_, b4⟩
        · show f_Bri_sea x X Y = _
          unfold f_Bri_sea
          rw [s_fromNow hp.1, br_rR, hsea, bi_rI, a1 _ (nneg (by rw [i_add (by omega) (by omega)]; omega)), bi_rI]
        · show f_Mod_sea x X1 Y = _
          unfold f_Mod_sea
          have e := m_goSea (a := 76) (X := Xn) (Y := Y) (g := X 76) x
          rw [row_M b2] at e
          rw [lh_e, a2.1, if_neg hne, m_inY2 (a := 1) (b := 9) (by decide) (by decide) hx, bi_rI, if_neg n10, er2, bi_rI, if_pos (by rw [i_le]; rw [i_lt] at h3; omega), b1, bv_rV, e, bv_rV, show ixb (0 : Int32) 15 = true from by decide, gd_t, show (0 : Int32).toNatClampNeg = 0 from by decide, setM_s (by omega)]
          rfl
theorem ok_let (x1 x : Int32) : Ok (fun X Y => f_Bri_let x1 x X Y) (fun X Y => f_Mod_let x1 x X Y) := by
  intro T X Y hT hR
  obtain ⟨n, m, hg, ht, hp, hh, hk, hf, hy⟩ := id hR
  obtain ⟨hE, h4, h6, hs4⟩ := id hg
  have n6 := hE.2.2.1
  obtain ⟨hok, hz, t, htT, h14⟩ := id hp.2
  have hM := hg.em
  have s1 := smX_C X (X 76)
  have s2 := s1.tr (thr (setC X 19 (X 76)))
  have hM2 := hM.same s2
  have e76 := s2.p76
  have gen : ∀ r : Int32, r < 0 → f_Pan_letOn 19 x1 x (setC X 19 (X 76)) Y = rI r (setC X 19 (X 76)) Y → f_Mod_let x1 x (setC X 19 (X 76)) Y = rI r (up (setC X 19 (X 76)) 70 0 0) Y → ∃ r X1 Y1 X2 Y2, f_Bri_let x1 x X Y = rI r X1 Y1 ∧ f_Mod_let x1 x X1 Y1 = rI r X2 Y2 ∧ Rel (T + 1) X2 Y2 := by
    intro r hr hc hm
    refine ⟨r, _, Y, _, Y, ?_, hm, act_no hR _⟩
    unfold f_Bri_let
    rw [s_fromNow hp.1, br_rR, hc, bi_rI, settle_neg hr, bi_rI]
  by_cases hx1 : 0 ≤ x1.toInt ∧ x1.toInt < (n - 1 : Nat)
  · obtain ⟨k, hk1, rfl⟩ := inN_of hx1
    have hkn : k + 1 < n := by omega
    have hl := s_letOn (Y := Y) (g := X 76) isP_19 hE hkn x
    unfold letR at hl
    cases hx : ft x 1 9 with
    | false =>
      rw [if_pos hx] at hl
      refine gen (-2) (by decide) hl ?_
      unfold f_Mod_let
      rw [lh_e, m_noGateY hM2 hkn, bi_rI, if_pos z00, m_inN2 (a := 1) (b := 9) (by decide) (by decide) hx, bi_rI, if_pos z00]
    | true =>
      have hb := ft_b hx
      have er := m_room (a := 76) (k := k + 1) (Y := Y) (g := X 76) (Or.inl rfl) hM2 (by omega)
      rw [row_M e76] at er
      rw [if_neg (by rw [hx]; decide)] at hl
      by_cases h2 : X 76 k < x
      · rw [if_pos h2] at hl
        refine gen (-3) (by decide) hl ?_
        unfold f_Mod_let
        rw [lh_e, m_noGateY hM2 hkn, bi_rI, if_pos z00, m_inY2 (a := 1) (b := 9) (by decide) (by decide) hx, bi_rI, if_neg n10, ixb_nI (by omega) (by decide), gd_t, cl_nI (by omega), e76, if_neg (by rw [i_le]; rw [i_lt] at h2; omega)]
      · rw [if_neg h2] at hl
        by_cases h3 : rmP (X 72) (X 76) (k + 1) < x
        · rw [if_pos h3] at hl
          refine gen (-4) (by decide) hl ?_
          unfold f_Mod_let
          rw [lh_e, m_noGateY hM2 hkn, bi_rI, if_pos z00, m_inY2 (a := 1) (b := 9) (by decide) (by decide) hx, bi_rI, if_neg n10, ixb_nI (by omega) (by decide), gd_t, cl_nI (by omega), e76, if_pos (by rw [i_le]; rw [i_lt] at h2; omega), nI_up, er, bi_rI, if_neg (by rw [i_le]; rw [i_lt] at h3; omega)]
        · rw [if_neg h3] at hl
          have hgp := (gp_let (kd := X 72) n6 hp.2 hkn x).mono (by omega : T ≤ T + 1)
          unfold letR at hgp
          rw [if_neg (by rw [hx]; decide), if_neg h2, if_neg h3] at hgp
          obtain ⟨X1, a1, a2, a3, Xn, b1, b2, b3, b4⟩ := act hg ht hp hh hk hf hy hgp
          have er2 := m_room (a := 76) (k := k + 1) (Y := Y) (g := X 76) (Or.inl rfl) a2 (by omega)
          rw [row_M a3] at er2
          rw [i_lt] at h2
          have hgo := goP_b hok (show k < 6 by omega) hb.1 (by omega)
          refine ⟨goP (X 76) k x, X1, Y, _, Y, ?_, ?_, b4⟩
          · show f_Bri_let (nI k) x X Y = _
            unfold f_Bri_let
            rw [s_fromNow hp.1, br_rR, hl, bi_rI, a1 _ (nneg hgo.1), bi_rI]
          · show f_Mod_let (nI k) x X1 Y = _
            unfold f_Mod_let
            have e := m_goLet (a := 76) (X := Xn) (Y := Y) (g := X 76) (k := k) (x := x) (by omega) (by intro e0; rw [e0, i0] at h2; omega)
            rw [row_M b2] at e
            rw [lh_e, m_noGateY a2 hkn, bi_rI, if_pos z00, m_inY2 (a := 1) (b := 9) (by decide) (by decide) hx, bi_rI, if_neg n10, ixb_nI (by omega) (by decide), gd_t, cl_nI (by omega), a3, if_pos (by rw [i_le]; omega), nI_up, er2, bi_rI, if_pos (by rw [i_le]; rw [i_lt] at h3; omega), b1, bv_rV, e, bi_rI]
  · refine gen (-1) (by decide) (s_letOnN isP_19 hE hx1 x) ?_
    unfold f_Mod_let
    rw [lh_e, m_noGateN hM2 hx1, bi_rI, if_neg n10]
theorem ok_turn (x : Int32) : Ok (fun X Y => f_Bri_turn x X Y) (fun X Y => f_Mod_turn x X Y) := by
  intro T X Y hT hR
  obtain ⟨n, m, hg, ht, hp, hh, hk, hf, hy⟩ := id hR
  obtain ⟨hE, h4, h6, hs4⟩ := id hg
  have n6 := hE.2.2.1
  have hM := hg.em
  by_cases hx1 : 0 ≤ x.toInt ∧ x.toInt < (n - 1 : Nat)
  · obtain ⟨k, hk1, rfl⟩ := inN_of hx1
    have hkn : k + 1 < n := by omega
    have hgp := (gp_tu n6 hp.2 (X 76 12 ^^^ bit k)).mono (by omega : T ≤ T + 1)
    obtain ⟨X1, a1, a2, a3, Xn, b1, b2, b3, b4⟩ := act hg ht hp hh hk hf hy hgp
    refine ⟨if hasB (X 76 12) k then 0 else 1, X1, Y, _, Y, ?_, ?_, b4⟩
    · show f_Bri_turn (nI k) X Y = _
      unfold f_Bri_turn
      have e := s_turnGate (Y := Y) (g := X 76) isP_19 hE hkn
      unfold turnR tuP at e
      rw [s_fromNow hp.1, br_rR, e, bi_rI, a1 _ (by show ¬ (if hasB (X 76 12) k then (0 : Int32) else 1) < 0; split <;> decide), bi_rI]
    · show f_Mod_turn (nI k) X1 Y = _
      unfold f_Mod_turn
      have e12 : Xn 76 12 = X 76 12 := by rw [b2]
      rw [lh_e, m_noGateY a2 hkn, bi_rI, if_pos z00, b1, bv_rV, show ixb (12 : Int32) 15 = true from by decide, gd_t, wr_t, gd_t, show (12 : Int32).toNatClampNeg = 12 from by decide, e12]
      have eu : up Xn 76 12 (X 76 12 ^^^ ((1 : Int32) <<< (nI k &&& 31))) = setM Xn 76 (upd (X 76) 12 (X 76 12 ^^^ bit k)) := by
        have q := upM (X := Xn) (a := 76) (g := X 76) (k := 12) (X 76 12 ^^^ bit k) (by omega)
        rw [row_M b2] at q
        exact q
      rw [eu, setM_s (by omega), upd_s, and1_hasB, hasB_flip _ (by omega)]
      cases hasB (X 76 12) k <;> rfl
  · refine ⟨-1, setC X 19 (X 76), Y, _, Y, ?_, ?_, act_no hR (X 76)⟩
    · show f_Bri_turn x X Y = _
      unfold f_Bri_turn
      rw [s_fromNow hp.1, br_rR, s_turnGateN isP_19 hE hx1, bi_rI, settle_neg (by decide), bi_rI]
    · show f_Mod_turn x _ Y = _
      unfold f_Mod_turn
      rw [lh_e, m_noGateN (hM.same ((smX_C X (X 76)).tr (thr _))) hx1, bi_rI, if_neg n10]
theorem ok_rake (x : Int32) : Ok (fun X Y => f_Bri_rake x X Y) (fun X Y => f_Mod_rake x X Y) := by
  intro T X Y hT hR
  obtain ⟨n, m, hg, ht, hp, hh, hk, hf, hy⟩ := id hR
  obtain ⟨hE, h4, h6, hs4⟩ := id hg
  have n6 := hE.2.2.1
  have hM := hg.em
  have s2 := (smX_C X (X 76)).tr (thr (setC X 19 (X 76)))
  have hM2 := hM.same s2
  have e76 := s2.p76
  by_cases hx1 : 0 ≤ x.toInt ∧ x.toInt < n
  · obtain ⟨k, hkn, rfl⟩ := inN_of hx1
    have hra := s_rakeUp (Y := Y) (g := X 76) isP_19 hE hkn
    unfold rakeR at hra
    cases hr : rkB (X 76) k with
    | false =>
      rw [hr, if_neg (by decide)] at hra
      refine ⟨-3, setC X 19 (X 76), Y, _, Y, ?_, ?_, act_no hR (X 76)⟩
      · show f_Bri_rake (nI k) X Y = _
        unfold f_Bri_rake
        rw [s_fromNow hp.1, br_rR, hra, bi_rI, settle_neg (show (-3 : Int32) < 0 by decide), bi_rI]
      · show f_Mod_rake (nI k) _ Y = _
        unfold f_Mod_rake
        have e := m_canRake (a := 76) (X := up (setC X 19 (X 76)) 70 0 0) (Y := Y) (g := X 76) (k := k) (by omega)
        rw [row_M e76, hr] at e
        rw [lh_e, m_noPanY hM2 hkn, bi_rI, if_pos z00, e, bi_rI, if_pos zif]
    | true =>
      rw [hr, if_pos rfl] at hra
      have hgp := (gp_ra n6 hp.2 hkn).mono (by omega : T ≤ T + 1)
      obtain ⟨X1, a1, a2, a3, Xn, b1, b2, b3, b4⟩ := act hg ht hp hh hk hf hy hgp
      have hcb := crP_b hp.2.1 (show k < 6 by omega)
      refine ⟨crP (X 76) k, X1, Y, _, Y, ?_, ?_, b4⟩
      · show f_Bri_rake (nI k) X Y = _
        unfold f_Bri_rake
        rw [s_fromNow hp.1, br_rR, hra, bi_rI, a1 _ (nneg hcb.1), bi_rI]
      · show f_Mod_rake (nI k) X1 Y = _
        unfold f_Mod_rake
        have e := m_canRake (a := 76) (X := up X1 70 0 0) (Y := Y) (g := X 76) (k := k) (by omega)
        rw [row_M a3, hr] at e
        have e2 := m_goRake (a := 76) (X := Xn) (Y := Y) (g := X 76) (k := k) (by omega)
        rw [row_M b2] at e2
        rw [lh_e, m_noPanY a2 hkn, bi_rI, if_pos z00, e, bi_rI, if_neg oif, b1, bv_rV, e2, bi_rI]
  · refine ⟨-1, setC X 19 (X 76), Y, _, Y, ?_, ?_, act_no hR (X 76)⟩
    · show f_Bri_rake x X Y = _
      unfold f_Bri_rake
      rw [s_fromNow hp.1, br_rR, s_rakeUpN isP_19 hE hx1, bi_rI, settle_neg (by decide), bi_rI]
    · show f_Mod_rake x _ Y = _
      unfold f_Mod_rake
      rw [lh_e, m_noPanN hM2 hx1, bi_rI, if_neg n10]
theorem ok_undo : Ok (fun X Y => f_Bri_undo X Y) (fun X Y => f_Mod_undo X Y) := by
  intro T X Y hT hR
  obtain ⟨n, m, hg, ht, hp, hh, hk, hf, hy⟩ := id hR
  obtain ⟨c, nx, hc, hnx, h3, h4, h5, h6⟩ := id hh
  by_cases hc0 : c = 0
  · subst hc0
    refine ⟨-3, X, Y, up X 70 0 0, Y, ?_, ?_, (hR.same (thr X)).mono (by omega)⟩
    · show f_Bri_undo X Y = _
      unfold f_Bri_undo f_Act_takeBack
      rw [h3, if_pos (show nI 0 = 0 from rfl), bi_rI]
    · show f_Mod_undo X Y = _
      unfold f_Mod_undo
      rw [lh_e, (thr X).2.2.2.2.1, h5, if_pos (show nI 0 = 0 from rfl)]
  · obtain ⟨d, rfl⟩ : ∃ d, c = d + 1 := ⟨c - 1, by omega⟩
    have hne : ¬ nI (d + 1) = 0 := nI_ne0 (by omega) (by omega)
    have hi : (nx + 13) % 14 < 14 := Nat.mod_lt _ (by decide)
    generalize hix : (nx + 13) % 14 = ix at hi
    have hr := isP_ring hi
    have r7 : rA 7 ix = 28 + 3 * ix := if_pos rfl
    obtain ⟨q1, q2⟩ := h6 d (by omega)
    rw [show (nx + 14 - (d + 1) + d) % 14 = ix by omega] at q1
    generalize hg' : (fun k => X 78 (15 * d + k)) = g' at q2
    have g'e : ∀ k, X 78 (15 * d + k) = g' k := fun k => by rw [← hg']
    generalize hXa : up (setC (up X 6 1 (nI ix)) 16 (pgC X (28 + 3 * ix))) 6 2 (nI d) = Xa
    have p16 : pgC (up X 6 1 (nI ix)) (28 + 3 * ix) = pgC X (28 + 3 * ix) := pgC_up (by omega)
    have rowA : ∀ b, b ≠ 6 → b ≠ 16 → b ≠ 17 → b ≠ 18 → Xa b = X b := by
      intro b b1 b2 b3 b4
      rw [← hXa, up_ne _ _ _ b1, setC_o b2 b3 b4, up_ne _ _ _ b1]
    have a61 : Xa 6 1 = nI ix := by rw [← hXa, up_an _ _ _ _ (by decide), setC_lo isP_16 (by decide), up_at]
    have a62 : Xa 6 2 = nI d := by rw [← hXa, up_at]
    have hsub : nI (nx) + (14 : Int32) - (1 : Int32) = nI (nx + 13) := by
      rw [show (14 : Int32) = nI 14 from rfl, nI_add, show (1 : Int32) = nI 1 from rfl, pk_sub (by omega)]
      rfl
    have hd1 : nI (d + 1) - (1 : Int32) = nI d := nI_pred d
    refine ⟨nI d, Xa, Y, setR (up (up Xa 70 0 0) 70 15 (nI d)) 76 (blk (X 76) g' 0 15), Y, ?_, ?_, ?_⟩
    · show f_Bri_undo X Y = _
      unfold f_Bri_undo f_Act_takeBack
      rw [h3, if_neg hne, show nzb (14 : Int32) = true from by decide, gd_t, lh_e, h4, hsub, show (14 : Int32) = nI 14 from rfl, pk_rem (by omega) (by omega) (by omega), hix, up_at, ixb_nI hi (by decide), gd_t, cl_nI (by omega), r7, s_copy isP_16 hr (by omega), bv_rV, lh_e, setC_lo isP_16 (by decide : 6 < 16), up_an _ _ _ _ (by decide : (2 : Nat) ≠ 1), h3, hd1, p16, hXa, a62, bi_rI]
    · show f_Mod_undo Xa Y = _
      unfold f_Mod_undo
      have a70 : Xa 70 = X 70 := rowA 70 (by decide) (by decide) (by decide) (by decide)
      rw [lh_e, up_an _ _ _ _ (by decide : (15 : Nat) ≠ 0), a70, h5, if_neg hne, lh_e, hd1]
      have e := l_mundo (X := up (up Xa 70 0 0) 70 15 (nI d)) (Y := Y) (c := d) (by omega) (up_at _ _ _ _) (fun w4 X5 Y6 =>
        (rI (X5 70 15) X5 Y6)) 15 256 0 (by omega) (by omega)
      have q76 : up (up Xa 70 0 0) 70 15 (nI d) 76 = X 76 := by rw [up_ne _ _ _ (by decide), up_ne _ _ _ (by decide), rowA 76 (by decide) (by decide) (by decide) (by decide)]
      have q78 : up (up Xa 70 0 0) 70 15 (nI d) 78 = X 78 := by rw [up_ne _ _ _ (by decide), up_ne _ _ _ (by decide), rowA 78 (by decide) (by decide) (by decide) (by decide)]
      rw [blk_0, setR_id, q76, q78, hg'] at e
      rw [show (nI 0) = (0 : Int32) from rfl] at e
      rw [e, setR_o _ _ (by decide : (70 : Nat) ≠ 76), up_at]
    · have row : ∀ b, b ≠ 6 → b ≠ 16 → b ≠ 17 → b ≠ 18 → b ≠ 70 → b ≠ 76 → setR (up (up Xa 70 0 0) 70 15 (nI d)) 76 (blk (X 76) g' 0 15) b = X b := by
        intro b h1 h2 h3 h4 h5 h6
        rw [setR_o _ _ h6, up_ne _ _ _ h5, up_ne _ _ _ h5, rowA b h1 h2 h3 h4]
      have r70 : ∀ k, k ≠ 0 → k ≠ 15 → setR (up (up Xa 70 0 0) 70 15 (nI d)) 76 (blk (X 76) g' 0 15) 70 k = X 70 k := by
        intro k hk0 hk15
        rw [setR_o _ _ (by decide), up_an _ _ _ _ hk15, up_an _ _ _ _ hk0, rowA 70 (by decide) (by decide) (by decide) (by decide)]
      refine ⟨n, m, hg.cg ?_ (r70 4 (by decide) (by decide)) (r70 6 (by decide) (by decide)), ht.cg ?_ (r70 2 (by decide) (by decide)), ?_, ?_, (hk.cg ?_).mono (by omega), hf.cg ?_ (r70 18 (by decide) (by decide)), hy⟩
      · intro b hb; exact row b (by omega) (by omega) (by omega) (by omega) (by omega) (by omega)
      · intro b hb; exact row b (by omega) (by omega) (by omega) (by omega) (by omega) (by omega)
      · have bin : ∀ k, k < 15 → blk (X 76) g' 0 15 k = g' k := fun k hk => by
          have e := blk_in (X 76) g' (o := 0) (n := 15) hk
          rw [Nat.zero_add] at e
          exact e
        have e76 : setR (up (up Xa 70 0 0) 70 15 (nI d)) 76 (blk (X 76) g' 0 15) 76 = blk (X 76) g' 0 15 := setR_s _ _ _
        unfold Rp
        rw [e76]
        refine ⟨fun k hk => ?_, (q2.mono (by omega : T ≤ T + 1)).ext (fun k hk => (bin k hk).symm)⟩
        rw [pgC_R (by omega), pgC_up (by omega), pgC_up (by omega), ← hXa, pgC_up (by omega), pgC_setC hk, bin k hk, ← g'e k]
        exact q1 k hk
      · refine ⟨d, ix, by omega, hi, ?_, ?_, ?_, fun j hj => ?_⟩
        · rw [setR_o _ _ (by decide), up_ne _ _ _ (by decide), up_ne _ _ _ (by decide), a62]
        · rw [setR_o _ _ (by decide), up_ne _ _ _ (by decide), up_ne _ _ _ (by decide), a61]
        · rw [setR_o _ _ (by decide), up_at]
        · obtain ⟨u1, u2⟩ := h6 j (by omega)
          have ei : (ix + 14 - d + j) % 14 = (nx + 14 - (d + 1) + j) % 14 := by omega
          have hl : (nx + 14 - (d + 1) + j) % 14 < 14 := Nat.mod_lt _ (by decide)
          rw [ei, row 78 (by decide) (by decide) (by decide) (by decide) (by decide) (by decide), pgC_row (row _ (by omega) (by omega) (by omega) (by omega) (by omega) (by omega)) (row _ (by omega) (by omega) (by omega) (by omega) (by omega) (by omega)) (row _ (by omega) (by omega) (by omega) (by omega) (by omega) (by omega))]
          exact ⟨u1, u2.mono (by omega)⟩
      · intro b hb; exact row b (by omega) (by omega) (by omega) (by omega) (by omega) (by omega)
      · intro b hb; exact row b (by omega) (by omega) (by omega) (by omega) (by omega) (by omega)
