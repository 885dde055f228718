/-! pure: pages, and how the class's and the model's cells hold them -/
theorem bi_rI (r : Int32) (X : HI) (Y : HL) (f : Int32 → HI → HL → Option Out) : bi (rI r X Y) f = f r X Y := rfl
theorem bl_rL (r : Int64) (X : HI) (Y : HL) (f : Int64 → HI → HL → Option Out) : bl (rL r X Y) f = f r X Y := rfl
theorem bv_rV (X : HI) (Y : HL) (f : HI → HL → Option Out) : bv (rV X Y) f = f X Y := rfl
theorem br_rR (n : Nat) (X : HI) (Y : HL) (f : HI → HL → Option Out) : br n (rR n X Y) f = f X Y := if_pos rfl
theorem lt_e (v : Int32) (f : Int32 → Option Out) : lt v f = f v := rfl
theorem ltl_e (v : Int64) (f : Int64 → Option Out) : ltl v f = f v := rfl
theorem lh_e (X : HI) (f : HI → Option Out) : lh X f = f X := rfl
theorem lhY_e (Y : HL) (f : HL → Option Out) : lhY Y f = f Y := rfl
theorem gd_t (o : Option Out) : gd true o = o := rfl
theorem wr_t (X : HI) (f : HI → Option Out) : wr true X f = f X := rfl
theorem ixb_nI {k n : Nat} (h : k < n) (hn : n ≤ 2 ^ 31) : ixb (nI k) n = true := by
  have e : (nI k).toInt = (k : Int) := nI_toInt (by omega)
  simp only [ixb, e, Bool.and_eq_true, decide_eq_true_eq]
  omega
theorem cl_nI {k : Nat} (h : k < 2 ^ 31) : (nI k).toNatClampNeg = k := nI_clamp h
theorem zb_0 : zb 0 = true := by decide
theorem zb_1 : zb 1 = true := by decide
theorem nzb_lit {x : Int32} (h : ¬ x = 0) : nzb x = true := by simp [nzb, h]
-- ints by their toInt
theorem i_lt (a b : Int32) : a < b ↔ a.toInt < b.toInt := Int32.lt_iff_toInt_lt
theorem i_le (a b : Int32) : a ≤ b ↔ a.toInt ≤ b.toInt := Int32.le_iff_toInt_le
theorem i_eq (a b : Int32) : a = b ↔ a.toInt = b.toInt := Int32.toInt_inj.symm
theorem i_rng (x : Int32) : -2147483648 ≤ x.toInt ∧ x.toInt < 2147483648 := by
  have h1 := Int32.le_toInt x
  have h2 := Int32.toInt_lt x
  omega
theorem i_bm {z : Int} (h1 : -2147483648 ≤ z) (h2 : z < 2147483648) : z.bmod (2 ^ 32) = z := by
  rw [Int.bmod_eq_of_le (by omega) (by omega)]
theorem i_add {x y : Int32} (h1 : -2147483648 ≤ x.toInt + y.toInt) (h2 : x.toInt + y.toInt < 2147483648) : (x + y).toInt = x.toInt + y.toInt := by
  rw [Int32.toInt_add, i_bm h1 h2]
theorem i_sub {x y : Int32} (h1 : -2147483648 ≤ x.toInt - y.toInt) (h2 : x.toInt - y.toInt < 2147483648) : (x - y).toInt = x.toInt - y.toInt := by
  rw [Int32.toInt_sub, i_bm h1 h2]
theorem i_mul {x y : Int32} (h1 : -2147483648 ≤ x.toInt * y.toInt) (h2 : x.toInt * y.toInt < 2147483648) : (x * y).toInt = x.toInt * y.toInt := by
  rw [Int32.toInt_mul, i_bm h1 h2]
theorem i_div {x y : Int32} (h : y.toInt ≠ -1) : (x / y).toInt = x.toInt.tdiv y.toInt := by
  rw [Int32.toInt_div]
  have h1 := i_rng x
  have h2 : (x.toInt.tdiv y.toInt).natAbs ≤ x.toInt.natAbs := Int.natAbs_tdiv_le_natAbs _ _
  by_cases h3 : x.toInt.tdiv y.toInt < 2147483648
  · exact i_bm (by omega) h3
  · exfalso
    have h4 : x.toInt = -2147483648 := by omega
    have h5 : x.toInt.tdiv y.toInt = 2147483648 := by omega
    have h6 : y.toInt ≠ 0 := by
      intro e
      rw [e, Int.tdiv_zero] at h5
      omega
    have h7 := Int.tmod_add_mul_tdiv x.toInt y.toInt
    have h8 : (x.toInt.tmod y.toInt).natAbs < y.toInt.natAbs := by
      rw [Int.natAbs_tmod]
      exact Nat.mod_lt _ (by omega)
    rw [h5, h4] at h7
    rw [h4] at h8
    have h9 := i_rng y
    by_cases hp : 0 < y.toInt
    · omega
    · have : y.toInt ≤ -2 := by omega
      omega
theorem i0 : (0 : Int32).toInt = 0 := by decide
theorem i1 : (1 : Int32).toInt = 1 := by decide
abbrev Pg : Type := Nat → Int32
def pgC (X : HI) (p : Nat) : Pg := fun k => if k < 6 then X (p + 1) k else if k < 12 then X (p + 2) (k - 6) else if k = 12 then X p 3 else if k = 13 then X p 4 else X p 5
def setC (X : HI) (p : Nat) (g : Pg) : HI := fun a => if a = p then (fun k => if k = 3 then g 12 else if k = 4 then g 13 else if k = 5 then g 14 else X p k) else if a = p + 1 then (fun k => if k < 6 then g k else X (p + 1) k) else if a = p + 2 then (fun k => if k < 6 then g (6 + k) else X (p + 2) k) else X a
def setM (X : HI) (a : Nat) (g : Pg) : HI := fun b => if b = a then (fun k => if k < 15 then g k else X a k) else X b
section SC
variable {X : HI} {p : Nat} {g h : Pg}
theorem setC_w {k : Nat} (hk : k < 6) : setC X p g (p + 1) k = g k := by
  unfold setC
  rw [if_neg (by omega), if_pos rfl]
  exact if_pos hk
theorem setC_s {k : Nat} (hk : k < 6) : setC X p g (p + 2) k = g (6 + k) := by
  unfold setC
  rw [if_neg (by omega), if_neg (by omega), if_pos rfl]
  exact if_pos hk
theorem setC_3 : setC X p g p 3 = g 12 := by unfold setC; rw [if_pos rfl]; rfl
theorem setC_4 : setC X p g p 4 = g 13 := by unfold setC; rw [if_pos rfl]; rfl
theorem setC_5 : setC X p g p 5 = g 14 := by unfold setC; rw [if_pos rfl]; rfl
theorem setC_o {a : Nat} (h1 : a ≠ p) (h2 : a ≠ p + 1) (h3 : a ≠ p + 2) : setC X p g a = X a := by
  unfold setC
  rw [if_neg h1, if_neg h2, if_neg h3]
theorem setC_lo {a : Nat} (hp : IsP p) (ha : a < 16) : setC X p g a = X a := setC_o (by have := hp.1; omega) (by have := hp.1; omega) (by have := hp.1; omega)
theorem setC_hi {a : Nat} (hp : IsP p) (ha : 70 ≤ a) : setC X p g a = X a := by
  obtain ⟨h1, h2, h3⟩ := hp
  exact setC_o (by omega) (by omega) (by omega)
theorem setC_ext (hgh : ∀ k, k < 15 → g k = h k) : setC X p g = setC X p h := by
  funext a k
  unfold setC
  split
  · dsimp only
    rw [hgh 12 (by omega), hgh 13 (by omega), hgh 14 (by omega)]
  · split
    · dsimp only
      split
      · rw [hgh k (by omega)]
      · rfl
    · split
      · dsimp only
        split
        · rw [hgh (6 + k) (by omega)]
        · rfl
      · rfl
theorem setC_id (hg : ∀ k, k < 15 → pgC X p k = g k) : setC X p g = X := by
  funext a k
  unfold setC
  by_cases h1 : a = p
  · subst h1
    rw [if_pos rfl]
    try dsimp only
    by_cases h3 : k = 3
    · subst h3; rw [if_pos rfl, ← hg 12 (by omega)]; rfl
    · rw [if_neg h3]
      by_cases h4 : k = 4
      · subst h4; rw [if_pos rfl, ← hg 13 (by omega)]; rfl
      · rw [if_neg h4]
        by_cases h5 : k = 5
        · subst h5; rw [if_pos rfl, ← hg 14 (by omega)]; rfl
        · rw [if_neg h5]
  · rw [if_neg h1]
    by_cases h2 : a = p + 1
    · subst h2
      rw [if_pos rfl]
      try dsimp only
      by_cases hk : k < 6
      · rw [if_pos hk, ← hg k (by omega)]
        unfold pgC
        rw [if_pos hk]
      · rw [if_neg hk]
    · rw [if_neg h2]
      by_cases h3 : a = p + 2
      · subst h3
        rw [if_pos rfl]
        try dsimp only
        by_cases hk : k < 6
        · rw [if_pos hk, ← hg (6 + k) (by omega)]
          unfold pgC
          rw [if_neg (by omega), if_pos (by omega), Nat.add_sub_cancel_left]
        · rw [if_neg hk]
      · rw [if_neg h3]
theorem pgC_setC {k : Nat} (hk : k < 15) : pgC (setC X p g) p k = g k := by
  unfold pgC
  by_cases h1 : k < 6
  · rw [if_pos h1, setC_w h1]
  · rw [if_neg h1]
    by_cases h2 : k < 12
    · rw [if_pos h2, setC_s (by omega)]
      congr 1
      omega
    · rw [if_neg h2]
      by_cases h3 : k = 12
      · rw [if_pos h3, setC_3, h3]
      · rw [if_neg h3]
        by_cases h4 : k = 13
        · rw [if_pos h4, setC_4, h4]
        · rw [if_neg h4, setC_5]
          congr 1
          omega
theorem setC_self : setC X p (pgC X p) = X := setC_id (fun _ _ => rfl)
theorem setC_setC : setC (setC X p g) p h = setC X p h := by
  funext a k
  by_cases h1 : a = p
  · subst h1
    simp only [setC, if_true]
    by_cases h3 : k = 3
    · simp [h3]
    · by_cases h4 : k = 4
      · simp [h4]
      · by_cases h5 : k = 5
        · simp [h5]
        · simp [h3, h4, h5]
  · by_cases h2 : a = p + 1
    · subst h2
      by_cases hk : k < 6
      · rw [setC_w hk, setC_w hk]
      · simp [setC, hk]
    · by_cases h3 : a = p + 2
      · subst h3
        by_cases hk : k < 6
        · rw [setC_s hk, setC_s hk]
        · simp [setC, hk]
      · rw [setC_o h1 h2 h3, setC_o h1 h2 h3, setC_o h1 h2 h3]
theorem upd_s (f : Pg) (k : Nat) (v : Int32) : upd f k v k = v := if_pos rfl
theorem upd_n (f : Pg) {k j : Nat} (v : Int32) (h : j ≠ k) : upd f k v j = f j := if_neg h
theorem setC_up (X : HI) (p : Nat) (g : Pg) (b j : Nat) (v : Int32) (c : Nat) (hc : c < 15) (h : (b = p + 1 ∧ j < 6 ∧ c = j) ∨ (b = p + 2 ∧ j < 6 ∧ c = 6 + j) ∨ (b = p ∧ 3 ≤ j ∧ j < 6 ∧ c = j + 9)) : up (setC X p g) b j v = setC X p (upd g c v) := by
  apply Eq.symm
  have key : ∀ k, k < 15 → pgC (up (setC X p g) b j v) p k = upd g c v k := by
    intro k hk
    have e0 := pgC_setC (X := X) (p := p) (g := g) hk
    unfold pgC at e0 ⊢
    rcases h with ⟨h1, h2, h3⟩ | ⟨h1, h2, h3⟩ | ⟨h1, h2, h4, h3⟩
    · subst h1
      rw [up_ne _ _ _ (show p + 2 ≠ p + 1 by omega), up_ne _ _ _ (show p ≠ p + 1 by omega), up_self]
      by_cases hk6 : k < 6
      · rw [if_pos hk6] at e0 ⊢
        by_cases hkj : k = j
        · subst hkj; rw [upd_s, h3, upd_s]
        · rw [upd_n _ _ hkj, upd_n _ _ (by omega)]; exact e0
      · rw [if_neg hk6] at e0 ⊢
        rw [upd_n _ _ (by omega)]; exact e0
    · subst h1
      rw [up_ne _ _ _ (show p + 1 ≠ p + 2 by omega), up_ne _ _ _ (show p ≠ p + 2 by omega), up_self]
      by_cases hk6 : k < 6
      · rw [if_pos hk6] at e0 ⊢
        rw [upd_n _ _ (by omega)]; exact e0
      · rw [if_neg hk6] at e0 ⊢
        by_cases hk12 : k < 12
        · rw [if_pos hk12] at e0 ⊢
          by_cases hkj : k - 6 = j
          · subst hkj; rw [upd_s, show c = k by omega, upd_s]
          · rw [upd_n _ _ hkj, upd_n _ _ (by omega)]; exact e0
        · rw [if_neg hk12] at e0 ⊢
          rw [upd_n _ _ (by omega)]; exact e0
    · subst h1
      rw [up_ne _ _ _ (show b + 1 ≠ b by omega), up_ne _ _ _ (show b + 2 ≠ b by omega), up_self]
      by_cases hk6 : k < 6
      · rw [if_pos hk6] at e0 ⊢
        rw [upd_n _ _ (by omega)]; exact e0
      · rw [if_neg hk6] at e0 ⊢
        by_cases hk12 : k < 12
        · rw [if_pos hk12] at e0 ⊢
          rw [upd_n _ _ (by omega)]; exact e0
        · rw [if_neg hk12] at e0 ⊢
          rcases (show j = 3 ∨ j = 4 ∨ j = 5 by omega) with rfl | rfl | rfl <;> subst h3 <;>
            rcases (show k = 12 ∨ k = 13 ∨ k = 14 by omega) with rfl | rfl | rfl <;> simp [upd] at e0 ⊢ <;> exact e0
  rw [← setC_id key]
  have hrow : ∀ a, a ≠ p → a ≠ p + 1 → a ≠ p + 2 → up (setC X p g) b j v a = X a := by
    intro a h1 h2 h3
    rw [up_ne _ _ _ (by omega), setC_o h1 h2 h3]
  funext a k
  unfold setC
  by_cases h1 : a = p
  · rw [if_pos h1, if_pos h1]
    try dsimp only
    split
    · rfl
    · split
      · rfl
      · split
        · rfl
        · rcases h with ⟨q1, q2, q3⟩ | ⟨q1, q2, q3⟩ | ⟨q1, q2, q4, q3⟩
          · rw [up_ne _ _ _ (by omega), if_pos rfl]; (try dsimp only); rw [if_neg (by assumption), if_neg (by assumption), if_neg (by assumption)]
          · rw [up_ne _ _ _ (by omega), if_pos rfl]; (try dsimp only); rw [if_neg (by assumption), if_neg (by assumption), if_neg (by assumption)]
          · subst q1; rw [up_self, upd_n _ _ (by omega), if_pos rfl]; (try dsimp only); rw [if_neg (by assumption), if_neg (by assumption), if_neg (by assumption)]
  · rw [if_neg h1, if_neg h1]
    by_cases h2 : a = p + 1
    · rw [if_pos h2, if_pos h2]
      try dsimp only
      split
      · rfl
      · rcases h with ⟨q1, q2, q3⟩ | ⟨q1, q2, q3⟩ | ⟨q1, q2, q4, q3⟩
        · subst q1; rw [up_self, upd_n _ _ (by omega), if_neg (by omega), if_pos rfl]; (try dsimp only); rw [if_neg (by assumption)]
        · rw [up_ne _ _ _ (by omega), if_neg (by omega), if_pos rfl]; (try dsimp only); rw [if_neg (by assumption)]
        · rw [up_ne _ _ _ (by omega), if_neg (by omega), if_pos rfl]; (try dsimp only); rw [if_neg (by assumption)]
    · rw [if_neg h2, if_neg h2]
      by_cases h3 : a = p + 2
      · rw [if_pos h3, if_pos h3]
        try dsimp only
        split
        · rfl
        · rcases h with ⟨q1, q2, q3⟩ | ⟨q1, q2, q3⟩ | ⟨q1, q2, q4, q3⟩
          · rw [up_ne _ _ _ (by omega), if_neg (by omega), if_neg (by omega), if_pos rfl]; (try dsimp only); rw [if_neg (by assumption)]
          · subst q1; rw [up_self, upd_n _ _ (by omega), if_neg (by omega), if_neg (by omega), if_pos rfl]; (try dsimp only); rw [if_neg (by assumption)]
          · rw [up_ne _ _ _ (by omega), if_neg (by omega), if_neg (by omega), if_pos rfl]; (try dsimp only); rw [if_neg (by assumption)]
      · rw [if_neg h3, if_neg h3]
        exact (congrFun (hrow a h1 h2 h3) k).symm
theorem upC_w {k : Nat} (v : Int32) (hk : k < 6) : up (setC X p g) (p + 1) k v = setC X p (upd g k v) := setC_up X p g _ k v k (by omega) (Or.inl ⟨rfl, hk, rfl⟩)
theorem upC_s {k : Nat} (v : Int32) (hk : k < 6) : up (setC X p g) (p + 2) k v = setC X p (upd g (6 + k) v) := setC_up X p g _ k v (6 + k) (by omega) (Or.inr (Or.inl ⟨rfl, hk, rfl⟩))
theorem upC_3 (v : Int32) : up (setC X p g) p 3 v = setC X p (upd g 12 v) := setC_up X p g _ 3 v 12 (by omega) (Or.inr (Or.inr ⟨rfl, by omega, by omega, rfl⟩))
theorem upC_4 (v : Int32) : up (setC X p g) p 4 v = setC X p (upd g 13 v) := setC_up X p g _ 4 v 13 (by omega) (Or.inr (Or.inr ⟨rfl, by omega, by omega, rfl⟩))
theorem upC_5 (v : Int32) : up (setC X p g) p 5 v = setC X p (upd g 14 v) := setC_up X p g _ 5 v 14 (by omega) (Or.inr (Or.inr ⟨rfl, by omega, by omega, rfl⟩))
end SC
section SM
variable {X : HI} {a : Nat} {g h : Pg}
theorem setM_s {k : Nat} (hk : k < 15) : setM X a g a k = g k := by unfold setM; rw [if_pos rfl]; exact if_pos hk
theorem setM_o {b : Nat} (hb : b ≠ a) : setM X a g b = X b := by unfold setM; rw [if_neg hb]
theorem setM_ext (hgh : ∀ k, k < 15 → g k = h k) : setM X a g = setM X a h := by
  funext b k
  unfold setM
  split
  · dsimp only
    split
    · rw [hgh k (by assumption)]
    · rfl
  · rfl
theorem setM_id (hg : ∀ k, k < 15 → X a k = g k) : setM X a g = X := by
  funext b k
  unfold setM
  by_cases hb : b = a
  · subst hb
    rw [if_pos rfl]
    try dsimp only
    split
    · rw [hg k (by assumption)]
    · rfl
  · rw [if_neg hb]
theorem setM_setM : setM (setM X a g) a h = setM X a h := by
  funext b k
  unfold setM
  by_cases hb : b = a
  · rw [if_pos hb, if_pos hb]
    try dsimp only
    split
    · rfl
    · rw [if_pos rfl, if_neg (by assumption)]
  · rw [if_neg hb, if_neg hb, if_neg hb]
theorem upM {k : Nat} (v : Int32) (hk : k < 15) : up (setM X a g) a k v = setM X a (upd g k v) := by
  funext b j
  by_cases hb : b = a
  · subst hb
    rw [up_self]
    unfold setM
    rw [if_pos rfl, if_pos rfl]
    by_cases hj : j = k
    · subst hj
      rw [upd_s]
      try dsimp only
      rw [if_pos hk, upd_s]
    · rw [upd_n _ _ hj]
      try dsimp only
      rw [upd_n _ _ hj]
  · rw [up_ne _ _ _ hb, setM_o hb, setM_o hb]
end SM
