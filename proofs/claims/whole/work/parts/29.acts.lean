/-! keep, again, the acts -/
def setR (X : HI) (a : Nat) (f : Pg) : HI := fun b => if b = a then f else X b
theorem setR_s (X : HI) (a : Nat) (f : Pg) : setR X a f a = f := if_pos rfl
theorem setR_o (X : HI) {a b : Nat} (f : Pg) (h : b ≠ a) : setR X a f b = X b := if_neg h
theorem setR_id (X : HI) (a : Nat) : setR X a (X a) = X := by
  funext b
  by_cases h : b = a
  · subst h; exact setR_s _ _ _
  · exact setR_o _ _ h
theorem up_R (X : HI) (a : Nat) (f : Pg) (k : Nat) (v : Int32) : up (setR X a f) a k v = setR X a (upd f k v) := by
  funext b
  by_cases h : b = a
  · subst h; rw [up_self, setR_s, setR_s]
  · rw [up_ne _ _ _ h, setR_o _ _ h, setR_o _ _ h]
def blk (dst src : Pg) (o n : Nat) : Pg := fun k => if o ≤ k ∧ k < o + n then src (k - o) else dst k
theorem blk_0 (dst src : Pg) (o : Nat) : blk dst src o 0 = dst := by
  funext k
  exact if_neg (by omega)
theorem blk_s (dst src : Pg) (o n : Nat) : upd (blk dst src o n) (o + n) (src n) = blk dst src o (n + 1) := by
  funext k
  unfold blk
  by_cases h : k = o + n
  · subst h; rw [upd_s, if_pos (by omega)]; congr 1; omega
  · rw [upd_n _ _ h]
    by_cases h2 : o ≤ k ∧ k < o + n
    · rw [if_pos h2, if_pos (by omega)]
    · rw [if_neg h2, if_neg (by omega)]
theorem blk_in (dst src : Pg) {o n k : Nat} (h : k < n) : blk dst src o n (o + k) = src k := by
  unfold blk
  rw [if_pos (by omega)]
  congr 1
  omega
theorem blk_out (dst src : Pg) {o n k : Nat} (h : k < o ∨ o + n ≤ k) : blk dst src o n k = dst k := if_neg (by omega)
theorem m15 (a b : Nat) : (15 : Int32) * nI a + nI b = nI (15 * a + b) := by rw [show (15 : Int32) = nI 15 from rfl, pk_mul, nI_add]
theorem gp.ext {n T : Nat} {g h : Pg} (hg : gp n T g) (e : ∀ k, k < 15 → g k = h k) : gp n T h := by
  obtain ⟨h1, h2, t, h3, h4⟩ := hg
  refine ⟨fun k hk => ?_, fun k hn hk => ?_, t, h3, by rw [← e 14 (by omega)]; exact h4⟩
  · rw [← e k (by omega), ← e (6 + k) (by omega)]; exact h1 k hk
  · rw [← e k (by omega), ← e (6 + k) (by omega)]; exact h2 k hn hk
theorem isP_slot {s : Nat} (h : s < 2) : IsP (22 + 3 * s) := ⟨by omega, by omega, by omega⟩
theorem isP_ring {s : Nat} (h : s < 14) : IsP (28 + 3 * s) := ⟨by omega, by omega, by omega⟩
theorem pgC_o {X : HI} {p q : Nat} {g : Pg} (hp : IsP p) (hq : IsP q) (h : q ≠ p) : pgC (setC X p g) q = pgC X q := by
  obtain ⟨p1, p2, p3⟩ := hp
  obtain ⟨q1, q2, q3⟩ := hq
  exact pgC_row (setC_o (by omega) (by omega) (by omega)) (setC_o (by omega) (by omega) (by omega)) (setC_o (by omega) (by omega) (by omega))
theorem pgC_up {X : HI} {p a k : Nat} {v : Int32} (h : a < p ∨ p + 2 < a) : pgC (up X a k v) p = pgC X p := pgC_row (up_ne _ _ _ (by omega)) (up_ne _ _ _ (by omega)) (up_ne _ _ _ (by omega))
theorem pgC_R {X : HI} {p a : Nat} {f : Pg} (h : a < p ∨ p + 2 < a) : pgC (setR X a f) p = pgC X p := pgC_row (setR_o _ _ (by omega)) (setR_o _ _ (by omega)) (setR_o _ _ (by omega))
theorem pgC_M {X : HI} {p a : Nat} {f : Pg} (h : a < p ∨ p + 2 < a) : pgC (setM X a f) p = pgC X p := pgC_row (setM_o (by omega)) (setM_o (by omega)) (setM_o (by omega))
theorem l_mkeep {X : HI} {Y : HL} {s : Nat} (hs : s < 2) (kx : Int32 → HI → HL → Option Out) : ∀ d f i, i + d = 15 → d < f → l_Mod_keep_26 (nI s) kx f (nI i) (setR X 79 (blk (X 79) (X 76) (15 * s) i)) Y = kx (nI 15) (setR X 79 (blk (X 79) (X 76) (15 * s) 15)) Y := by
  intro d
  induction d with
  | zero =>
    intro f i h hf
    obtain ⟨f, rfl⟩ : ∃ f', f = f' + 1 := ⟨f - 1, by omega⟩
    have e : i = 15 := by omega
    subst e
    rw [l_Mod_keep_26, if_pos (show (15 : Int32) ≤ nI 15 by decide)]
  | succ d ih =>
    intro f i h hf
    obtain ⟨f, rfl⟩ : ∃ f', f = f' + 1 := ⟨f - 1, by omega⟩
    rw [l_Mod_keep_26, if_neg (show ¬ (15 : Int32) ≤ nI i from nI_ge (b := 15) (by omega) (by omega)), ixb_nI (by omega) (by decide), gd_t, m15, ixb_nI (by omega) (by decide), wr_t, cl_nI (by omega), cl_nI (by omega), setR_o _ _ (by decide : (76 : Nat) ≠ 79), up_R, blk_s, nI_up]
    exact ih f (i + 1) (by omega) (by omega)
theorem l_magain {X : HI} {Y : HL} {s : Nat} (hs : s < 2) (kx : Int32 → HI → HL → Option Out) : ∀ d f i, i + d = 15 → d < f → l_Mod_again_31 (nI s) kx f (nI i) (setR X 76 (blk (X 76) (fun k => X 79 (15 * s + k)) 0 i)) Y = kx (nI 15) (setR X 76 (blk (X 76) (fun k => X 79 (15 * s + k)) 0 15)) Y := by
  intro d
  induction d with
  | zero =>
    intro f i h hf
    obtain ⟨f, rfl⟩ : ∃ f', f = f' + 1 := ⟨f - 1, by omega⟩
    have e : i = 15 := by omega
    subst e
    rw [l_Mod_again_31, if_pos (show (15 : Int32) ≤ nI 15 by decide)]
  | succ d ih =>
    intro f i h hf
    obtain ⟨f, rfl⟩ : ∃ f', f = f' + 1 := ⟨f - 1, by omega⟩
    have e := blk_s (X 76) (fun k => X 79 (15 * s + k)) 0 i
    rw [Nat.zero_add] at e
    rw [l_Mod_again_31, if_neg (show ¬ (15 : Int32) ≤ nI i from nI_ge (b := 15) (by omega) (by omega)), m15, ixb_nI (by omega) (by decide), gd_t, ixb_nI (by omega) (by decide), wr_t, cl_nI (by omega), cl_nI (by omega), setR_o _ _ (by decide : (79 : Nat) ≠ 76), up_R, e, nI_up]
    exact ih f (i + 1) (by omega) (by omega)
theorem l_mundo {X : HI} {Y : HL} {c : Nat} (hc : c < 14) (h15 : X 70 15 = nI c) (kx : Int32 → HI → HL → Option Out) : ∀ d f i, i + d = 15 → d < f → l_Mod_undo_27 kx f (nI i) (setR X 76 (blk (X 76) (fun k => X 78 (15 * c + k)) 0 i)) Y = kx (nI 15) (setR X 76 (blk (X 76) (fun k => X 78 (15 * c + k)) 0 15)) Y := by
  intro d
  induction d with
  | zero =>
    intro f i h hf
    obtain ⟨f, rfl⟩ : ∃ f', f = f' + 1 := ⟨f - 1, by omega⟩
    have e : i = 15 := by omega
    subst e
    rw [l_Mod_undo_27, if_pos (show (15 : Int32) ≤ nI 15 by decide)]
  | succ d ih =>
    intro f i h hf
    obtain ⟨f, rfl⟩ : ∃ f', f = f' + 1 := ⟨f - 1, by omega⟩
    have e := blk_s (X 76) (fun k => X 78 (15 * c + k)) 0 i
    rw [Nat.zero_add] at e
    rw [l_Mod_undo_27, if_neg (show ¬ (15 : Int32) ≤ nI i from nI_ge (b := 15) (by omega) (by omega)), setR_o _ _ (by decide : (70 : Nat) ≠ 76), h15, m15, ixb_nI (by omega) (by decide), gd_t, ixb_nI (by omega) (by decide), wr_t, cl_nI (by omega), cl_nI (by omega), setR_o _ _ (by decide : (78 : Nat) ≠ 76), up_R, e, nI_up]
    exact ih f (i + 1) (by omega) (by omega)
theorem l_mnote2 {X : HI} {Y : HL} {c : Nat} (hc : c < 14) (h15 : X 70 15 = nI c) (kx : Int32 → HI → HL → Option Out) : ∀ d f i, i + d = 15 → d < f → l_Mod_note_51 kx f (nI i) (setR X 78 (blk (X 78) (X 76) (15 * c) i)) Y = kx (nI 15) (setR X 78 (blk (X 78) (X 76) (15 * c) 15)) Y := by
  intro d
  induction d with
  | zero =>
    intro f i h hf
    obtain ⟨f, rfl⟩ : ∃ f', f = f' + 1 := ⟨f - 1, by omega⟩
    have e : i = 15 := by omega
    subst e
    rw [l_Mod_note_51, if_pos (show (15 : Int32) ≤ nI 15 by decide)]
  | succ d ih =>
    intro f i h hf
    obtain ⟨f, rfl⟩ : ∃ f', f = f' + 1 := ⟨f - 1, by omega⟩
    rw [l_Mod_note_51, if_neg (show ¬ (15 : Int32) ≤ nI i from nI_ge (b := 15) (by omega) (by omega)), ixb_nI (by omega) (by decide), gd_t, setR_o _ _ (by decide : (70 : Nat) ≠ 78), h15, m15, ixb_nI (by omega) (by decide), wr_t, cl_nI (by omega), cl_nI (by omega), setR_o _ _ (by decide : (76 : Nat) ≠ 78), up_R, blk_s, nI_up]
    exact ih f (i + 1) (by omega) (by omega)
theorem l_mnote1 {X : HI} {Y : HL} (kx : Int32 → HI → HL → Option Out) : ∀ d f i, i + d = 195 → d < f → l_Mod_note_11 kx f (nI i) (setR X 78 (blk (X 78) (fun k => X 78 (k + 15)) 0 i)) Y = kx (nI 195) (setR X 78 (blk (X 78) (fun k => X 78 (k + 15)) 0 195)) Y := by
  intro d
  induction d with
  | zero =>
    intro f i h hf
    obtain ⟨f, rfl⟩ : ∃ f', f = f' + 1 := ⟨f - 1, by omega⟩
    have e : i = 195 := by omega
    subst e
    rw [l_Mod_note_11, if_pos (show (195 : Int32) ≤ nI 195 by decide)]
  | succ d ih =>
    intro f i h hf
    obtain ⟨f, rfl⟩ : ∃ f', f = f' + 1 := ⟨f - 1, by omega⟩
    have e := blk_s (X 78) (fun k => X 78 (k + 15)) 0 i
    rw [Nat.zero_add] at e
    rw [l_Mod_note_11, if_neg (show ¬ (195 : Int32) ≤ nI i from nI_ge (b := 195) (by omega) (by omega)), show nI i + (15 : Int32) = nI (i + 15) from nI_add i 15, ixb_nI (by omega) (by decide), gd_t, ixb_nI (by omega) (by decide), wr_t, cl_nI (by omega), cl_nI (by omega), setR_s, blk_out _ _ (by omega), up_R, e, nI_up]
    exact ih f (i + 1) (by omega) (by omega)
theorem m_note49 {X : HI} {Y : HL} {c : Nat} (hc : c < 14) (h15 : X 70 15 = nI c) : b_Mod_note_49 X Y = rV (up (setR X 78 (blk (X 78) (X 76) (15 * c) 15)) 70 15 (nI (c + 1))) Y := by
  unfold b_Mod_note_49
  have e := l_mnote2 (X := X) (Y := Y) hc h15 (fun w2 X3 Y4 =>
    lh (up X3 70 15 ((X3 70 15) + (1 : Int32))) (fun X5 =>
    (rV X5 Y4))) 15 256 0 (by omega) (by omega)
  rw [blk_0, setR_id] at e
  rw [show (0 : Int32) = nI 0 from rfl, e, lh_e, setR_o _ _ (by decide : (70 : Nat) ≠ 78), h15, nI_up]
/-- the model's note: the page comes behind the book, the first one goes if it is full -/
theorem m_note {X : HI} {Y : HL} {c : Nat} (hc : c ≤ 14) (h15 : X 70 15 = nI c) : ∃ X', f_Mod_note X Y = rV X' Y ∧ (∀ b, b ≠ 70 → b ≠ 78 → X' b = X b) ∧ (∀ k, k ≠ 15 → X' 70 k = X 70 k) ∧ X' 70 15 = nI (if c = 14 then 14 else c + 1) ∧ (∀ j k, k < 15 → (j < (if c = 14 then 13 else c) → X' 78 (15 * j + k) = X 78 (15 * (if c = 14 then j + 1 else j) + k)) ∧ (j = (if c = 14 then 13 else c) → X' 78 (15 * j + k) = X 76 k)) := by
  unfold f_Mod_note
  by_cases h : c = 14
  · subst h
    have e := l_mnote1 (X := X) (Y := Y) (fun w7 X8 Y9 =>
      lh (up X8 70 15 ((X8 70 15) - (1 : Int32))) (fun X10 =>
      (b_Mod_note_49 X10 Y9))) 195 256 0 (by omega) (by omega)
    rw [blk_0, setR_id] at e
    rw [h15, if_pos (show nI 14 = (14 : Int32) from rfl), show (0 : Int32) = nI 0 from rfl, e, lh_e, setR_o _ _ (by decide : (70 : Nat) ≠ 78), h15, show nI 14 - (1 : Int32) = nI 13 from by decide]
    generalize hX1 : up (setR X 78 (blk (X 78) (fun k => X 78 (k + 15)) 0 195)) 70 15 (nI 13) = X1
    have q15 : X1 70 15 = nI 13 := by rw [← hX1, up_at]
    have q78 : X1 78 = blk (X 78) (fun k => X 78 (k + 15)) 0 195 := by rw [← hX1, up_ne _ _ _ (by decide), setR_s]
    have q76 : X1 76 = X 76 := by rw [← hX1, up_ne _ _ _ (by decide), setR_o _ _ (by decide)]
    refine ⟨_, m_note49 (by omega) q15, ?_, ?_, ?_, ?_⟩
    · intro b b1 b2
      rw [up_ne _ _ _ b1, setR_o _ _ b2, ← hX1, up_ne _ _ _ b1, setR_o _ _ b2]
    · intro k hk
      rw [up_an _ _ _ _ hk, setR_o _ _ (by decide), ← hX1, up_an _ _ _ _ hk, setR_o _ _ (by decide)]
    · rw [up_at, if_pos rfl]
    · intro j k hk
      rw [if_pos rfl, if_pos rfl, up_ne _ _ _ (by decide), setR_s, q78, q76]
      refine ⟨fun hj => ?_, fun hj => ?_⟩
      · rw [blk_out _ _ (by omega)]
        have e2 := blk_in (X 78) (fun k => X 78 (k + 15)) (o := 0) (n := 195) (k := 15 * j + k) (by omega)
        rw [Nat.zero_add] at e2
        rw [e2]
        show X 78 (15 * j + k + 15) = X 78 (15 * (j + 1) + k)
        rw [show 15 * j + k + 15 = 15 * (j + 1) + k by omega]
      · subst hj
        exact blk_in _ _ hk
  · rw [h15, if_neg (show ¬ nI c = (14 : Int32) from fun e => by have := (nI_eq (a := c) (b := 14) (by omega) (by omega)).mp e; omega)]
    refine ⟨_, m_note49 (by omega) h15, ?_, ?_, ?_, ?_⟩
    · intro b b1 b2
      rw [up_ne _ _ _ b1, setR_o _ _ b2]
    · intro k hk
      rw [up_an _ _ _ _ hk, setR_o _ _ (by decide)]
    · rw [up_at, if_neg h]
    · intro j k hk
      rw [if_neg h, if_neg h, up_ne _ _ _ (by decide), setR_s]
      refine ⟨fun hj => ?_, fun hj => ?_⟩
      · rw [blk_out _ _ (by omega)]
      · subst hj
        exact blk_in _ _ hk
theorem ok_keep (x : Int32) : Ok (fun X Y => f_Bri_keep x X Y) (fun X Y => f_Mod_keep x X Y) := by
  intro T X Y hT hR
  obtain ⟨n, m, hg, ht, hp, hh, hk, hf, hy⟩ := id hR
  cases hx : ft x 0 1 with
  | false =>
    refine ⟨-1, X, Y, up X 70 0 0, Y, ?_, ?_, (hR.same (thr X)).mono (by omega)⟩
    · show f_Bri_keep x X Y = _
      unfold f_Bri_keep
      rw [s_isFTn hx, bi_rI, if_pos z00]
    · show f_Mod_keep x X Y = _
      unfold f_Mod_keep
      rw [lh_e, m_inN2 (a := 0) (b := 1) (by decide) (by decide) hx, bi_rI, if_pos z00]
  | true =>
    obtain ⟨s, hs, rfl⟩ := ft_nat0 (b := 1) (by decide) hx
    have hs2 : s < 2 := by omega
    have hps := isP_slot hs2
    have n1 : vp_nar .boolean (1 : Int32) = 1 := by decide
    have r12 : rA 12 s = 22 + 3 * s := if_neg (by decide)
    generalize hXa : up (setC X (22 + 3 * s) (pgC X 16)) 13 s 1 = Xa
    have a16 : Xa 16 = X 16 := by rw [← hXa, up_ne _ _ _ (by decide), setC_o (by omega) (by omega) (by omega)]
    have a76 : Xa 76 = X 76 := by rw [← hXa, up_ne _ _ _ (by decide), setC_hi hps (by decide)]
    have d14 : X 16 5 = X 76 14 := hp.1 14 (by omega)
    refine ⟨X 76 14, Xa, Y, setR (up (up Xa 70 0 0) 80 s 1) 79 (blk (Xa 79) (X 76) (15 * s) 15), Y, ?_, ?_, ?_⟩
    · show f_Bri_keep (nI s) X Y = _
      unfold f_Bri_keep
      rw [s_isFTy hx, bi_rI, if_neg n10, ixb_nI hs2 (by decide), gd_t, cl_nI (by omega), r12, s_copy hps isP_16 (by omega), bv_rV, wr_t, n1, hXa, a16, d14]
    · show f_Mod_keep (nI s) Xa Y = _
      unfold f_Mod_keep
      rw [lh_e, m_inY2 (a := 0) (b := 1) (by decide) (by decide) hx, bi_rI, if_neg n10, ixb_nI hs2 (by decide), wr_t, cl_nI (by omega), n1]
      have e := l_mkeep (X := up (up Xa 70 0 0) 80 s 1) (Y := Y) hs2 (fun w7 X8 Y9 =>
        gd (ixb (14 : Int32) 15) (
        (rI (X8 76 (14 : Int32).toNatClampNeg) X8 Y9))) 15 256 0 (by omega) (by omega)
      rw [blk_0, setR_id] at e
      have q76 : up (up Xa 70 0 0) 80 s 1 76 = X 76 := by rw [up_ne _ _ _ (by decide), up_ne _ _ _ (by decide), a76]
      have q79 : up (up Xa 70 0 0) 80 s 1 79 = Xa 79 := by rw [up_ne _ _ _ (by decide), up_ne _ _ _ (by decide)]
      rw [q76, q79] at e
      rw [show (0 : Int32) = nI 0 from rfl] at e ⊢
      rw [show nI 0 = (0 : Int32) from rfl] at e ⊢
      rw [e, show ixb (14 : Int32) 15 = true from by decide, gd_t, setR_o _ _ (by decide : (76 : Nat) ≠ 79), q76]
      rfl
    · have row : ∀ b, b ≠ 13 → b ≠ 22 + 3 * s → b ≠ 22 + 3 * s + 1 → b ≠ 22 + 3 * s + 2 → b ≠ 70 → b ≠ 79 → b ≠ 80 → setR (up (up Xa 70 0 0) 80 s 1) 79 (blk (Xa 79) (X 76) (15 * s) 15) b = X b := by
        intro b h1 h2 h3 h4 h5 h6 h7
        rw [setR_o _ _ h6, up_ne _ _ _ h7, up_ne _ _ _ h5, ← hXa, up_ne _ _ _ h1, setC_o h2 h3 h4]
      have r70 : ∀ k, k ≠ 0 → setR (up (up Xa 70 0 0) 80 s 1) 79 (blk (Xa 79) (X 76) (15 * s) 15) 70 k = X 70 k := by
        intro k hk0
        rw [setR_o _ _ (by decide), up_ne _ _ _ (by decide), up_an _ _ _ _ hk0, ← hXa, up_ne _ _ _ (by decide), setC_hi hps (by decide)]
      refine ⟨n, m, hg.cg ?_ (r70 4 (by decide)) (r70 6 (by decide)), ht.cg ?_ (r70 2 (by decide)), (hp.cg ?_).mono (by omega), (hh.cg ?_ (r70 15 (by decide))).mono (by omega), ?_, hf.cg ?_ (r70 18 (by decide)), hy⟩
      · intro b hb; exact row b (by omega) (by omega) (by omega) (by omega) (by omega) (by omega) (by omega)
      · intro b hb; exact row b (by omega) (by omega) (by omega) (by omega) (by omega) (by omega) (by omega)
      · intro b hb; exact row b (by omega) (by omega) (by omega) (by omega) (by omega) (by omega) (by omega)
      · intro b hb; exact row b (by omega) (by omega) (by omega) (by omega) (by omega) (by omega) (by omega)
      · intro s' hs'
        have e13 : setR (up (up Xa 70 0 0) 80 s 1) 79 (blk (Xa 79) (X 76) (15 * s) 15) 13 = upd (X 13) s 1 := by
          rw [setR_o _ _ (by decide), up_ne _ _ _ (by decide), up_ne _ _ _ (by decide), ← hXa, up_self, setC_lo hps (by decide)]
        have e80 : setR (up (up Xa 70 0 0) 80 s 1) 79 (blk (Xa 79) (X 76) (15 * s) 15) 80 = upd (X 80) s 1 := by
          rw [setR_o _ _ (by decide), up_self, up_ne _ _ _ (by decide), ← hXa, up_ne _ _ _ (by decide), setC_hi hps (by decide)]
        have e79 : Xa 79 = X 79 := by rw [← hXa, up_ne _ _ _ (by decide), setC_hi hps (by decide)]
        rw [e13, e80, setR_s, e79, pgC_R (by omega), pgC_up (by omega), pgC_up (by omega), ← hXa, pgC_up (by omega)]
        by_cases hss : s' = s
        · subst hss
          rw [upd_s, upd_s]
          refine ⟨rfl, Or.inr rfl, fun _ => ⟨fun k hk => ?_, ?_⟩⟩
          · rw [pgC_setC hk, blk_in _ _ hk]
            exact hp.1 k hk
          · exact (hp.2.mono (by omega : T ≤ T + 1)).ext (fun k hk => (blk_in _ _ hk).symm)
        · rw [upd_n _ _ hss, upd_n _ _ hss, pgC_o hps (isP_slot hs') (by omega)]
          obtain ⟨k1, k2, k3⟩ := (hk.mono (by omega : T ≤ T + 1)) s' hs'
          refine ⟨k1, k2, fun h1 => ⟨fun k hk => ?_, ?_⟩⟩
          · rw [blk_out _ _ (by omega)]
            exact (k3 h1).1 k hk
          · exact (k3 h1).2.ext (fun k hk => (blk_out _ _ (by omega)).symm)
      · intro b hb; exact row b (by omega) (by omega) (by omega) (by omega) (by omega) (by omega) (by omega)
theorem Rh_0 {n T : Nat} {X : HI} {nx : Nat} (h1 : nx < 14) (h2 : X 6 1 = nI nx) (h3 : X 6 2 = 0) (h4 : X 70 15 = 0) : Rh n T X := ⟨0, nx, by omega, h1, h3, h2, h4, fun j hj => absurd hj (by omega)⟩
theorem ok_again (x : Int32) : Ok (fun X Y => f_Bri_again x X Y) (fun X Y => f_Mod_again x X Y) := by
  intro T X Y hT hR
  obtain ⟨n, m, hg, ht, hp, hh, hk, hf, hy⟩ := id hR
  cases hx : ft x 0 1 with
  | false =>
    refine ⟨-1, X, Y, up X 70 0 0, Y, ?_, ?_, (hR.same (thr X)).mono (by omega)⟩
    · show f_Bri_again x X Y = _
      unfold f_Bri_again
      rw [s_isFTn hx, bi_rI, if_pos z00]
    · show f_Mod_again x X Y = _
      unfold f_Mod_again
      rw [lh_e, m_inN2 (a := 0) (b := 1) (by decide) (by decide) hx, bi_rI, if_pos z00]
  | true =>
    obtain ⟨s, hs, rfl⟩ := ft_nat0 (b := 1) (by decide) hx
    have hs2 : s < 2 := by omega
    have hps := isP_slot hs2
    have r12 : rA 12 s = 22 + 3 * s := if_neg (by decide)
    obtain ⟨k1, k2, k3⟩ := hk s hs2
    by_cases h0 : X 80 s = 0
    · refine ⟨-3, X, Y, up X 70 0 0, Y, ?_, ?_, (hR.same (thr X)).mono (by omega)⟩
      · show f_Bri_again (nI s) X Y = _
        unfold f_Bri_again
        rw [s_isFTy hx, bi_rI, if_neg n10, ixb_nI hs2 (by decide), gd_t, cl_nI (by omega), k1, if_pos h0]
      · show f_Mod_again (nI s) X Y = _
        unfold f_Mod_again
        rw [lh_e, m_inY2 (a := 0) (b := 1) (by decide) (by decide) hx, bi_rI, if_neg n10, ixb_nI hs2 (by decide), gd_t, cl_nI (by omega), up_ne _ _ _ (by decide : (80 : Nat) ≠ 70), if_pos h0]
    · have h1 : X 80 s = 1 := by rcases k2 with h | h; exact absurd h h0; exact h
      obtain ⟨k4, k5⟩ := k3 h1
      generalize hg' : (fun k => X 79 (15 * s + k)) = g' at k5
      have g'e : ∀ k, X 79 (15 * s + k) = g' k := fun k => by rw [← hg']
      generalize hXa : up (setC X 16 (pgC X (22 + 3 * s))) 6 2 0 = Xa
      have a16 : Xa 16 5 = g' 14 := by
        rw [← hXa, up_ne _ _ _ (by decide), setC_5, ← g'e 14]
        exact k4 14 (by omega)
      have a76 : Xa 76 = X 76 := by rw [← hXa, up_ne _ _ _ (by decide), setC_hi isP_16 (by decide)]
      have a79 : Xa 79 = X 79 := by rw [← hXa, up_ne _ _ _ (by decide), setC_hi isP_16 (by decide)]
      have a80 : Xa 80 = X 80 := by rw [← hXa, up_ne _ _ _ (by decide), setC_hi isP_16 (by decide)]
      refine ⟨g' 14, Xa, Y, up (setR (up Xa 70 0 0) 76 (blk (X 76) g' 0 15)) 70 15 0, Y, ?_, ?_, ?_⟩
      · show f_Bri_again (nI s) X Y = _
        unfold f_Bri_again f_Act_clear
        rw [s_isFTy hx, bi_rI, if_neg n10, ixb_nI hs2 (by decide), gd_t, cl_nI (by omega), k1, if_neg h0, gd_t, r12, s_copy isP_16 hps (by omega), bv_rV, lh_e, bv_rV, hXa, a16]
      · show f_Mod_again (nI s) Xa Y = _
        unfold f_Mod_again
        rw [lh_e, m_inY2 (a := 0) (b := 1) (by decide) (by decide) hx, bi_rI, if_neg n10, ixb_nI hs2 (by decide), gd_t, cl_nI (by omega), up_ne _ _ _ (by decide : (80 : Nat) ≠ 70), a80, if_neg h0]
        have e := l_magain (X := up Xa 70 0 0) (Y := Y) hs2 (fun w6 X7 Y8 =>
          lh (up X7 70 15 (0 : Int32)) (fun X9 =>
          gd (ixb (14 : Int32) 15) (
          (rI (X9 76 (14 : Int32).toNatClampNeg) X9 Y8)))) 15 256 0 (by omega) (by omega)
        have q76 : up Xa 70 0 0 76 = X 76 := by rw [up_ne _ _ _ (by decide), a76]
        have q79 : up Xa 70 0 0 79 = X 79 := by rw [up_ne _ _ _ (by decide), a79]
        rw [blk_0, setR_id, q76, q79, hg'] at e
        rw [show (nI 0) = (0 : Int32) from rfl] at e
        rw [e, lh_e, show ixb (14 : Int32) 15 = true from by decide, gd_t, up_ne _ _ _ (by decide : (76 : Nat) ≠ 70), setR_s]
        have e14 := blk_in (X 76) g' (o := 0) (n := 15) (k := 14) (by omega)
        rw [Nat.zero_add] at e14
        rw [show (14 : Int32).toNatClampNeg = 14 from by decide, e14]
      · have row : ∀ b, b ≠ 6 → b ≠ 16 → b ≠ 17 → b ≠ 18 → b ≠ 70 → b ≠ 76 → up (setR (up Xa 70 0 0) 76 (blk (X 76) g' 0 15)) 70 15 0 b = X b := by
          intro b h1 h2 h3 h4 h5 h6
          rw [up_ne _ _ _ h5, setR_o _ _ h6, up_ne _ _ _ h5, ← hXa, up_ne _ _ _ h1, setC_o h2 h3 h4]
        have r70 : ∀ k, k ≠ 0 → k ≠ 15 → up (setR (up Xa 70 0 0) 76 (blk (X 76) g' 0 15)) 70 15 0 70 k = X 70 k := by
          intro k hk0 hk15
          rw [up_an _ _ _ _ hk15, setR_o _ _ (by decide), up_an _ _ _ _ hk0, ← hXa, up_ne _ _ _ (by decide), setC_hi isP_16 (by decide)]
        refine ⟨n, m, hg.cg ?_ (r70 4 (by decide) (by decide)) (r70 6 (by decide) (by decide)), ht.cg ?_ (r70 2 (by decide) (by decide)), ?_, ?_, (hk.cg ?_).mono (by omega), hf.cg ?_ (r70 18 (by decide) (by decide)), hy⟩
        · intro b hb; exact row b (by omega) (by omega) (by omega) (by omega) (by omega) (by omega)
        · intro b hb; exact row b (by omega) (by omega) (by omega) (by omega) (by omega) (by omega)
        · have bin : ∀ k, k < 15 → blk (X 76) g' 0 15 k = g' k := fun k hk => by
            have e := blk_in (X 76) g' (o := 0) (n := 15) hk
            rw [Nat.zero_add] at e
            exact e
          have e76 : up (setR (up Xa 70 0 0) 76 (blk (X 76) g' 0 15)) 70 15 0 76 = blk (X 76) g' 0 15 := by rw [up_ne _ _ _ (by decide), setR_s]
          unfold Rp
          rw [e76]
          refine ⟨fun k hk => ?_, (k5.mono (by omega : T ≤ T + 1)).ext (fun k hk => (bin k hk).symm)⟩
          rw [pgC_up (by omega), pgC_R (by omega), pgC_up (by omega), ← hXa, pgC_up (by omega), pgC_setC hk, bin k hk, ← g'e k]
          exact k4 k hk
        · obtain ⟨c, nx, h1, h2, h3, h4, h5, h6⟩ := hh
          refine Rh_0 h2 ?_ ?_ ?_
          · rw [up_ne _ _ _ (by decide), setR_o _ _ (by decide), up_ne _ _ _ (by decide), ← hXa, up_an _ _ _ _ (by decide), setC_lo isP_16 (by decide)]; exact h4
          · rw [up_ne _ _ _ (by decide), setR_o _ _ (by decide), up_ne _ _ _ (by decide), ← hXa, up_at]
          · rw [up_at]
        · intro b hb; exact row b (by omega) (by omega) (by omega) (by omega) (by omega) (by omega)
        · intro b hb; exact row b (by omega) (by omega) (by omega) (by omega) (by omega) (by omega)
