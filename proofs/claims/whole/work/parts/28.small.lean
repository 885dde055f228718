/-! small changes: write, wipe, find, forget, seed, keep, again -/
theorem Rg.cg {n m : Nat} {X X' : HI} (h : Rg n m X) (r : ∀ b, (b = 3 ∨ b = 4 ∨ b = 5 ∨ b = 72 ∨ b = 73) → X' b = X b) (h4 : X' 70 4 = X 70 4) (h6 : X' 70 6 = X 70 6) : Rg n m X' := by
  unfold Rg EC
  rw [r 72 (by simp), r 73 (by simp), r 3 (by simp), r 4 (by simp), r 5 (by simp), h4, h6]
  exact h
theorem Rt.cg {X X' : HI} (h : Rt X) (r : ∀ b, (b = 1 ∨ b = 2 ∨ b = 71) → X' b = X b) (h2 : X' 70 2 = X 70 2) : Rt X' := by
  unfold Rt
  rw [r 1 (by simp), r 2 (by simp), r 71 (by simp), h2]
  exact h
theorem Rp.cg {n T : Nat} {X X' : HI} (h : Rp n T X) (r : ∀ b, (b = 16 ∨ b = 17 ∨ b = 18 ∨ b = 76) → X' b = X b) : Rp n T X' := by
  unfold Rp
  rw [r 76 (by simp), pgC_row (r 16 (by simp)) (r 17 (by simp)) (r 18 (by simp))]
  exact h
theorem Rh.cg {n T : Nat} {X X' : HI} (h : Rh n T X) (r : ∀ b, (b = 6 ∨ b = 78 ∨ (28 ≤ b ∧ b < 70)) → X' b = X b) (h15 : X' 70 15 = X 70 15) : Rh n T X' := by
  obtain ⟨c, nx, h1, h2, h3, h4, h5, h6⟩ := h
  refine ⟨c, nx, h1, h2, by rw [r 6 (by simp)]; exact h3, by rw [r 6 (by simp)]; exact h4, by rw [h15]; exact h5, fun j hj => ?_⟩
  have hlt : (nx + 14 - c + j) % 14 < 14 := Nat.mod_lt _ (by decide)
  rw [r 78 (by simp), pgC_row (r _ (Or.inr (Or.inr (by omega)))) (r _ (Or.inr (Or.inr (by omega)))) (r _ (Or.inr (Or.inr (by omega))))]
  exact h6 j hj
theorem Rk.cg {n T : Nat} {X X' : HI} (h : Rk n T X) (r : ∀ b, (b = 13 ∨ b = 79 ∨ b = 80 ∨ (22 ≤ b ∧ b < 28)) → X' b = X b) : Rk n T X' := by
  intro s hs
  rw [r 13 (by simp), r 80 (by simp), r 79 (by simp), pgC_row (r _ (Or.inr (Or.inr (Or.inr (by omega))))) (r _ (Or.inr (Or.inr (Or.inr (by omega))))) (r _ (Or.inr (Or.inr (Or.inr (by omega)))))]
  exact h s hs
theorem Rf.cg {X X' : HI} (h : Rf X) (r : ∀ b, (b = 8 ∨ b = 9 ∨ b = 10 ∨ b = 11 ∨ b = 81 ∨ b = 82 ∨ b = 83) → X' b = X b) (h18 : X' 70 18 = X 70 18) : Rf X' := by
  unfold Rf
  rw [r 8 (by simp), r 9 (by simp), r 10 (by simp), r 11 (by simp), r 81 (by simp), r 82 (by simp), r 83 (by simp), h18]
  exact h
theorem Rp.mono {n T T' : Nat} {X : HI} (h : Rp n T X) (hT : T ≤ T') : Rp n T' X := ⟨h.1, h.2.mono hT⟩
theorem Rh.mono {n T T' : Nat} {X : HI} (h : Rh n T X) (hT : T ≤ T') : Rh n T' X := by
  obtain ⟨c, nx, h1, h2, h3, h4, h5, h6⟩ := h
  exact ⟨c, nx, h1, h2, h3, h4, h5, fun j hj => ⟨(h6 j hj).1, (h6 j hj).2.mono hT⟩⟩
theorem Rk.mono {n T T' : Nat} {X : HI} (h : Rk n T X) (hT : T ≤ T') : Rk n T' X := fun s hs => ⟨(h s hs).1, (h s hs).2.1, fun h1 => ⟨((h s hs).2.2 h1).1, ((h s hs).2.2 h1).2.mono hT⟩⟩
theorem up_at (X : HI) (a k : Nat) (v : Int32) : up X a k v a k = v := by rw [up_self, upd_s]
theorem up_an (X : HI) (a k : Nat) (v : Int32) {j : Nat} (h : j ≠ k) : up X a k v a j = X a j := by rw [up_self, upd_n _ _ h]
theorem ok_write (x : Int32) : Ok (fun X Y => f_Bri_write x X Y) (fun X Y => f_Mod_write x X Y) := by
  intro T X Y hT hR
  obtain ⟨n, m, hg, ht, hp, hh, hk, hf, hy⟩ := id hR
  cases hx : ft x 0 255 with
  | false =>
    refine ⟨-2, X, Y, up X 70 0 0, Y, ?_, ?_, (hR.same (thr X)).mono (by omega)⟩
    · show f_Bri_write x X Y = _
      unfold f_Bri_write
      by_cases h1 : x < 0
      · rw [if_pos h1]
      · rw [if_neg h1, if_neg]
        intro h2
        have h3 : ¬ (255 : Int32) < x := by rw [i_lt]; rw [i_le] at h2; omega
        simp [ft, h1, h3] at hx
    · show f_Mod_write x X Y = _
      unfold f_Mod_write
      rw [lh_e, m_inN2 (a := 0) (b := 255) (by decide) (by decide) hx, bi_rI, if_pos z00]
  | true =>
    obtain ⟨d, hd, rfl⟩ := ft_nat0 (b := 255) (by decide) hx
    obtain ⟨len, l36, e1, e2, hl⟩ := id ht
    have h1 : ¬ nI d < 0 := nI_pos (by omega)
    have h2 : nI d ≤ (255 : Int32) := nI_le (b := 255) (by omega) (by omega)
    by_cases hfull : len = 36
    · subst hfull
      refine ⟨-4, X, Y, up X 70 0 0, Y, ?_, ?_, (hR.same (thr X)).mono (by omega)⟩
      · show f_Bri_write (nI d) X Y = _
        unfold f_Bri_write f_Txt_append
        rw [if_neg h1, if_pos h2, e1, if_neg (show ¬ nI 36 < (36 : Int32) by decide), bi_rI]
      · show f_Mod_write (nI d) X Y = _
        unfold f_Mod_write
        rw [lh_e, m_inY2 (a := 0) (b := 255) (by decide) (by decide) hx, bi_rI, if_neg n10, (thr X).2.1, e2, if_pos (show nI 36 = (36 : Int32) from rfl)]
    · have hlen : len < 36 := by omega
      refine ⟨nI (len + 1), up (up X 2 len (nI d)) 1 1 (nI (len + 1)), Y, up (up (up (up (up X 2 len (nI d)) 1 1 (nI (len + 1))) 70 0 0) 71 len (nI d)) 70 2 (nI (len + 1)), Y, ?_, ?_, ?_⟩
      · show f_Bri_write (nI d) X Y = _
        unfold f_Bri_write f_Txt_append
        rw [if_neg h1, if_pos h2, e1, if_pos (show nI len < (36 : Int32) from nI_lt (b := 36) hlen (by omega)), ixb_nI hlen (by decide), wr_t, lh_e, cl_nI (by omega), up_ne _ _ _ (by decide : (1 : Nat) ≠ 2), e1, nI_up, up_at, bi_rI]
      · show f_Mod_write (nI d) _ Y = _
        unfold f_Mod_write
        have q : up (up (up X 2 len (nI d)) 1 1 (nI (len + 1))) 70 0 0 70 2 = nI len := by
          rw [up_an _ _ _ _ (by decide), up_ne _ _ _ (by decide : (70 : Nat) ≠ 1), up_ne _ _ _ (by decide : (70 : Nat) ≠ 2), e2]
        rw [lh_e, m_inY2 (a := 0) (b := 255) (by decide) (by decide) hx, bi_rI, if_neg n10, q, if_neg (show ¬ nI len = (36 : Int32) from fun e => by have := (nI_eq (a := len) (b := 36) (by omega) (by omega)).mp e; omega), ixb_nI hlen (by decide), wr_t, lh_e, cl_nI (by omega), up_ne _ _ _ (by decide : (70 : Nat) ≠ 71), q, nI_up, up_at]
      · refine ⟨n, m, hg.cg ?_ ?_ ?_, ?_, (hp.cg ?_).mono (by omega), (hh.cg ?_ ?_).mono (by omega), (hk.cg ?_).mono (by omega), hf.cg ?_ ?_, hy⟩
        · rintro b (rfl | rfl | rfl | rfl | rfl) <;> simp [up]
        · simp [up, upd]
        · simp [up, upd]
        · refine ⟨len + 1, by omega, ?_, ?_, fun k hk => ?_⟩
          · simp [up, upd]
          · simp [up, upd]
          · by_cases e : k = len
            · subst e
              have t1 := nI_toInt (n := d) (by omega)
              simp [up, upd, t1]
              omega
            · have := hl k (by omega)
              simp [up, upd, e]
              exact this
        · rintro b (rfl | rfl | rfl | rfl) <;> simp [up]
        · intro b hb
          rw [up_ne _ _ _ (by omega), up_ne _ _ _ (by omega), up_ne _ _ _ (by omega), up_ne _ _ _ (by omega), up_ne _ _ _ (by omega)]
        · simp [up, upd]
        · intro b hb
          rw [up_ne _ _ _ (by omega), up_ne _ _ _ (by omega), up_ne _ _ _ (by omega), up_ne _ _ _ (by omega), up_ne _ _ _ (by omega)]
        · rintro b (rfl | rfl | rfl | rfl | rfl | rfl | rfl) <;> simp [up]
        · simp [up, upd]
theorem ok_wipe : Ok (fun X Y => f_Bri_wipe X Y) (fun X Y => f_Mod_wipe X Y) := by
  intro T X Y hT hR
  obtain ⟨n, m, hg, ht, hp, hh, hk, hf, hy⟩ := id hR
  obtain ⟨len, l36, e1, e2, hl⟩ := id ht
  refine ⟨nI len, up X 1 1 0, Y, up (up (up X 1 1 0) 70 0 0) 70 2 0, Y, ?_, ?_, ?_⟩
  · show f_Bri_wipe X Y = _
    unfold f_Bri_wipe f_Txt_clear
    rw [lt_e, lh_e, e1, bi_rI]
  · show f_Mod_wipe _ Y = _
    unfold f_Mod_wipe
    rw [lh_e, lt_e, lh_e, up_an _ _ _ _ (by decide), up_ne _ _ _ (by decide : (70 : Nat) ≠ 1), e2]
  · refine ⟨n, m, hg.cg ?_ ?_ ?_, ?_, (hp.cg ?_).mono (by omega), (hh.cg ?_ ?_).mono (by omega), (hk.cg ?_).mono (by omega), hf.cg ?_ ?_, hy⟩
    · rintro b (rfl | rfl | rfl | rfl | rfl) <;> simp [up]
    · simp [up, upd]
    · simp [up, upd]
    · exact ⟨0, by omega, by simp [up, upd]; rfl, by simp [up, upd]; rfl, fun k hk => absurd hk (by omega)⟩
    · rintro b (rfl | rfl | rfl | rfl) <;> simp [up]
    · intro b hb
      rw [up_ne _ _ _ (by omega), up_ne _ _ _ (by omega), up_ne _ _ _ (by omega)]
    · simp [up, upd]
    · intro b hb
      rw [up_ne _ _ _ (by omega), up_ne _ _ _ (by omega), up_ne _ _ _ (by omega)]
    · rintro b (rfl | rfl | rfl | rfl | rfl | rfl | rfl) <;> simp [up]
    · simp [up, upd]
theorem nar_b (z : Bool) : vp_nar .boolean (if z then 1 else 0) = if z then 1 else 0 := by cases z <;> decide
theorem ok_find (x1 x2 x3 : Int32) : Ok (fun X Y => f_Bri_find x1 x2 x3 X Y) (fun X Y => f_Mod_find x1 x2 x3 X Y) := by
  intro T X Y hT hR
  obtain ⟨n, m, hg, ht, hp, hh, hk, hf, hy⟩ := id hR
  have gen : ∀ r : Int32, f_Bri_find x1 x2 x3 X Y = rI r X Y → f_Mod_find x1 x2 x3 X Y = rI r (up X 70 0 0) Y → ∃ r X1 Y1 X2 Y2, f_Bri_find x1 x2 x3 X Y = rI r X1 Y1 ∧ f_Mod_find x1 x2 x3 X1 Y1 = rI r X2 Y2 ∧ Rel (T + 1) X2 Y2 := fun r h1 h2 => ⟨r, X, Y, _, Y, h1, h2, (hR.same (thr X)).mono (by omega)⟩
  cases f1 : ft x1 0 9 with
  | false => exact gen (-2) (by unfold f_Bri_find; rw [s_isFTn f1, bi_rI, if_pos z00]) (by unfold f_Mod_find; rw [lh_e, m_inN2 (a := 0) (b := 9) (by decide) (by decide) f1, bi_rI, if_pos z00])
  | true =>
    cases f2 : ft x2 0 99 with
    | false => exact gen (-2) (by unfold f_Bri_find; rw [s_isFTy f1, bi_rI, if_neg n10, s_isFTn f2, bi_rI, if_pos z00]) (by unfold f_Mod_find; rw [lh_e, m_inY2 (a := 0) (b := 9) (by decide) (by decide) f1, bi_rI, if_neg n10, m_inN2 (a := 0) (b := 99) (by decide) (by decide) f2, bi_rI, if_pos z00])
    | true =>
      cases f3 : ft x3 0 1 with
      | false => exact gen (-2) (by unfold f_Bri_find; rw [s_isFTy f1, bi_rI, if_neg n10, s_isFTy f2, bi_rI, if_neg n10, s_isFTn f3, bi_rI, if_pos z00]) (by unfold f_Mod_find; rw [lh_e, m_inY2 (a := 0) (b := 9) (by decide) (by decide) f1, bi_rI, if_neg n10, m_inY2 (a := 0) (b := 99) (by decide) (by decide) f2, bi_rI, if_neg n10, m_inN2 (a := 0) (b := 1) (by decide) (by decide) f3, bi_rI, if_pos z00])
      | true =>
        obtain ⟨c, c6, e1, e2, hl⟩ := id hf
        by_cases hfull : c = 6
        · subst hfull
          refine gen (-4) ?_ ?_
          · unfold f_Bri_find f_Fin_add
            rw [s_isFTy f1, bi_rI, if_neg n10, s_isFTy f2, bi_rI, if_neg n10, s_isFTy f3, bi_rI, if_neg n10, e1, if_neg (show ¬ nI 6 < (6 : Int32) by decide), bi_rI]
          · unfold f_Mod_find
            rw [lh_e, m_inY2 (a := 0) (b := 9) (by decide) (by decide) f1, bi_rI, if_neg n10, m_inY2 (a := 0) (b := 99) (by decide) (by decide) f2, bi_rI, if_neg n10, m_inY2 (a := 0) (b := 1) (by decide) (by decide) f3, bi_rI, if_neg n10, (thr X).2.2.2.2.2, e2, if_pos (show nI 6 = (6 : Int32) from rfl)]
        · have hc : c < 6 := by omega
          obtain ⟨w, hw, ew⟩ := ft_nat0 (b := 9) (by decide) f1
          obtain ⟨z, hz, ez⟩ := ft_nat0 (b := 1) (by decide) f3
          have hx3 : x3 = 0 ∨ x3 = 1 := by
            rcases (show z = 0 ∨ z = 1 by omega) with rfl | rfl
            · left; exact ez
            · right; exact ez
          have hb : b_Fin_add_50 x3 (nI c) (up (up X 9 c x1) 10 c x2) Y = rI (nI (c + 1)) (up (up (up (up X 9 c x1) 10 c x2) 11 c x3) 8 3 (nI (c + 1))) Y := by
            unfold b_Fin_add_50
            have e8 : up (up (up X 9 c x1) 10 c x2) 11 c x3 8 3 = nI c := by
              rw [up_ne _ _ _ (by decide : (8 : Nat) ≠ 11), up_ne _ _ _ (by decide : (8 : Nat) ≠ 10), up_ne _ _ _ (by decide : (8 : Nat) ≠ 9), e1]
            have en : vp_nar .boolean x3 = x3 := by rcases hx3 with rfl | rfl <;> decide
            rw [ixb_nI hc (by decide), wr_t, cl_nI (by omega), en, lh_e, e8, nI_up, up_at]
          refine ⟨nI (c + 1), up (up (up (up X 9 c x1) 10 c x2) 11 c x3) 8 3 (nI (c + 1)), Y, up (up (up (up (up (up (up (up (up X 9 c x1) 10 c x2) 11 c x3) 8 3 (nI (c + 1))) 70 0 0) 81 c x1) 82 c x2) 83 c x3) 70 18 (nI (c + 1)), Y, ?_, ?_, ?_⟩
          · show f_Bri_find x1 x2 x3 X Y = _
            unfold f_Bri_find f_Fin_add
            rw [s_isFTy f1, bi_rI, if_neg n10, s_isFTy f2, bi_rI, if_neg n10, s_isFTy f3, bi_rI, if_neg n10, e1, if_pos (show nI c < (6 : Int32) from nI_lt (b := 6) hc (by omega)), ixb_nI hc (by decide), wr_t, cl_nI (by omega), up_ne _ _ _ (by decide : (8 : Nat) ≠ 9), e1, ixb_nI hc (by decide), wr_t, cl_nI (by omega), up_ne _ _ _ (by decide : (8 : Nat) ≠ 10), up_ne _ _ _ (by decide : (8 : Nat) ≠ 9), e1]
            rcases hx3 with h3 | h3
            · rw [if_neg (by rw [h3]; decide)]
              rw [h3] at hb ⊢
              rw [hb, bi_rI]
            · rw [if_pos h3]
              rw [h3] at hb ⊢
              rw [hb, bi_rI]
          · show f_Mod_find x1 x2 x3 _ Y = _
            unfold f_Mod_find
            generalize hXa : up (up (up (up X 9 c x1) 10 c x2) 11 c x3) 8 3 (nI (c + 1)) = Xa
            have q0 : Xa 70 18 = nI c := by rw [← hXa]; simp [up]; exact e2
            have q : up Xa 70 0 0 70 18 = nI c := by rw [up_an _ _ _ _ (by decide), q0]
            rw [lh_e, m_inY2 (a := 0) (b := 9) (by decide) (by decide) f1, bi_rI, if_neg n10, m_inY2 (a := 0) (b := 99) (by decide) (by decide) f2, bi_rI, if_neg n10, m_inY2 (a := 0) (b := 1) (by decide) (by decide) f3, bi_rI, if_neg n10, q, if_neg (show ¬ nI c = (6 : Int32) from fun e => by have := (nI_eq (a := c) (b := 6) (by omega) (by omega)).mp e; omega), ixb_nI hc (by decide), wr_t, cl_nI (by omega), up_ne _ _ _ (by decide : (70 : Nat) ≠ 81), q, ixb_nI hc (by decide), wr_t, cl_nI (by omega), up_ne _ _ _ (by decide : (70 : Nat) ≠ 82), up_ne _ _ _ (by decide : (70 : Nat) ≠ 81), q, ixb_nI hc (by decide), wr_t, cl_nI (by omega), lh_e, up_ne _ _ _ (by decide : (70 : Nat) ≠ 83), up_ne _ _ _ (by decide : (70 : Nat) ≠ 82), up_ne _ _ _ (by decide : (70 : Nat) ≠ 81), q, nI_up, up_at]
          · refine ⟨n, m, hg.cg ?_ ?_ ?_, ht.cg ?_ ?_, (hp.cg ?_).mono (by omega), (hh.cg ?_ ?_).mono (by omega), (hk.cg ?_).mono (by omega), ?_, hy⟩
            · rintro b (rfl | rfl | rfl | rfl | rfl) <;> simp [up]
            · simp [up, upd]
            · simp [up, upd]
            · rintro b (rfl | rfl | rfl) <;> simp [up]
            · simp [up, upd]
            · rintro b (rfl | rfl | rfl | rfl) <;> simp [up]
            · intro b hb
              rw [up_ne _ _ _ (by omega), up_ne _ _ _ (by omega), up_ne _ _ _ (by omega), up_ne _ _ _ (by omega), up_ne _ _ _ (by omega), up_ne _ _ _ (by omega), up_ne _ _ _ (by omega), up_ne _ _ _ (by omega), up_ne _ _ _ (by omega)]
            · simp [up, upd]
            · intro b hb
              rw [up_ne _ _ _ (by omega), up_ne _ _ _ (by omega), up_ne _ _ _ (by omega), up_ne _ _ _ (by omega), up_ne _ _ _ (by omega), up_ne _ _ _ (by omega), up_ne _ _ _ (by omega), up_ne _ _ _ (by omega), up_ne _ _ _ (by omega)]
            · refine ⟨c + 1, by omega, ?_, ?_, fun i hi => ?_⟩
              · simp [up, upd]
              · simp [up, upd]
              · by_cases e : i = c
                · subst e
                  have t1 := nI_toInt (n := w) (by omega)
                  rw [← ew] at t1
                  simp [up, upd]
                  exact ⟨by omega, hx3⟩
                · have := hl i (by omega)
                  simp [up, upd, e]
                  exact this
theorem ok_forget : Ok (fun X Y => f_Bri_forget X Y) (fun X Y => f_Mod_forget X Y) := by
  intro T X Y hT hR
  obtain ⟨n, m, hg, ht, hp, hh, hk, hf, hy⟩ := id hR
  obtain ⟨c, c6, e1, e2, hl⟩ := id hf
  refine ⟨nI c, up X 8 3 0, Y, up (up (up X 8 3 0) 70 0 0) 70 18 0, Y, ?_, ?_, ?_⟩
  · show f_Bri_forget X Y = _
    unfold f_Bri_forget f_Fin_clear
    rw [lt_e, lh_e, e1, bi_rI]
  · show f_Mod_forget _ Y = _
    unfold f_Mod_forget
    rw [lh_e, lt_e, lh_e, up_an _ _ _ _ (by decide), up_ne _ _ _ (by decide : (70 : Nat) ≠ 8), e2]
  · refine ⟨n, m, hg.cg ?_ ?_ ?_, ht.cg ?_ ?_, (hp.cg ?_).mono (by omega), (hh.cg ?_ ?_).mono (by omega), (hk.cg ?_).mono (by omega), ?_, hy⟩
    · rintro b (rfl | rfl | rfl | rfl | rfl) <;> simp [up]
    · simp [up, upd]
    · simp [up, upd]
    · rintro b (rfl | rfl | rfl) <;> simp [up]
    · simp [up, upd]
    · rintro b (rfl | rfl | rfl | rfl) <;> simp [up]
    · intro b hb
      rw [up_ne _ _ _ (by omega), up_ne _ _ _ (by omega), up_ne _ _ _ (by omega)]
    · simp [up, upd]
    · intro b hb
      rw [up_ne _ _ _ (by omega), up_ne _ _ _ (by omega), up_ne _ _ _ (by omega)]
    · exact ⟨0, by omega, by simp [up, upd]; rfl, by simp [up, upd]; rfl, fun k hk => absurd hk (by omega)⟩
/-- seed: its answers are longs -/
theorem ok_seed (v : Int64) (T : Nat) (X : HI) (Y : HL) (hR : Rel T X Y) : ∃ r X1 Y1 X2 Y2, f_Bri_seed v X Y = rL r X1 Y1 ∧ f_Mod_seed v X1 Y1 = rL r X2 Y2 ∧ Rel (T + 1) X2 Y2 := by
  obtain ⟨n, m, hg, ht, hp, hh, hk, hf, hy⟩ := id hR
  refine ⟨Y 0, X, upY Y 0 v, up X 70 0 0, upY (upY Y 0 v) 70 v, ?_, ?_, ?_⟩
  · unfold f_Bri_seed
    simp only [ltl_e, lhY_e]
  · unfold f_Mod_seed
    simp only [ltl_e, lhY_e, lh_e]
    rw [upY_ne _ _ (by decide : (70 : Nat) ≠ 0), hy]
  · obtain ⟨n, m, hg, ht, hp, hh, hk, hf, hy⟩ := (hR.same (thr X)).mono (by omega : T ≤ T + 1)
    exact ⟨n, m, hg, ht, hp, hh, hk, hf, by rw [upY_self, upY_ne _ _ (by decide : (0 : Nat) ≠ 70), upY_self]⟩
