/-! the text: read thing by thing -/
abbrev St : Type := Nat × Nat × Pg × Pg × Pg × Pg
abbrev St.p (σ : St) : Nat := σ.1
abbrev St.q (σ : St) : Nat := σ.2.1
abbrev St.kd (σ : St) : Pg := σ.2.2.1
abbrev St.wa (σ : St) : Pg := σ.2.2.2.1
abbrev St.sa (σ : St) : Pg := σ.2.2.2.2.1
abbrev St.sk (σ : St) : Pg := σ.2.2.2.2.2
def dgB (l : Pg) (L i : Nat) (a b : Int32) : Bool := decide (i < L) && ft (l i) a b
def adP (σ : St) (k w s : Int32) : St := ⟨σ.p + 1, σ.q, upd σ.kd σ.p k, upd σ.wa σ.p w, upd σ.sa σ.p s, σ.sk⟩
def adS (σ : St) (v : Int32) : St := ⟨σ.p, σ.q + 1, σ.kd, σ.wa, σ.sa, upd σ.sk σ.q v⟩
def stp (l : Pg) (L i : Nat) (σ : St) : Nat × Option St :=
  if l i = 78 then
    if σ.p < 6 then
      if dgB l L (i + 1) 48 51 then
        if dgB l L (i + 2) 48 54 then
          if dgB l L (i + 3) 48 57 then (i + 4, some (adP σ (l (i + 1) - 48) (l (i + 2) - 48) (10 * (l (i + 3) - 48))))
          else (i + 3, none)
        else (i + 2, none)
      else (i + 1, none)
    else (i, none)
  else if l i = 82 then
    if σ.q < 5 then if dgB l L (i + 1) 49 52 then (i + 2, some (adS σ (-(l (i + 1) - 48)))) else (i + 1, none) else (i, none)
  else if l i = 83 then
    if σ.q < 5 then if dgB l L (i + 1) 48 52 then (i + 2, some (adS σ (l (i + 1) - 48))) else (i + 1, none) else (i, none)
  else (i, none)
def rd (l : Pg) (L : Nat) : Nat → Nat → St → Int32 × St
  | 0, _, σ => (-9, σ)
  | f + 1, i, σ => if L ≤ i then (-9, σ) else match stp l L i σ with
    | (pos, none) => (nI pos, σ)
    | (pos, some σ') => rd l L f pos σ'
theorem rd_end {l : Pg} {L f i : Nat} {σ : St} (h : L ≤ i) : rd l L (f + 1) i σ = (-9, σ) := by
  rw [rd, if_pos h]
theorem rd_no {l : Pg} {L f i pos : Nat} {σ : St} (h : ¬ L ≤ i) (hs : stp l L i σ = (pos, none)) : rd l L (f + 1) i σ = (nI pos, σ) := by
  rw [rd, if_neg h, hs]
theorem rd_so {l : Pg} {L f i pos : Nat} {σ σ' : St} (h : ¬ L ≤ i) (hs : stp l L i σ = (pos, some σ')) : rd l L (f + 1) i σ = rd l L f pos σ' := by
  rw [rd, if_neg h, hs]
def rd0 (l : Pg) (L : Nat) (σ : St) : Int32 × St := if L = 0 then (0, σ) else if l 0 = 77 then rd l L 40 1 σ else (0, σ)
theorem dg_y {l : Pg} {L i : Nat} {a b : Int32} (h : dgB l L i a b = true) : i < L ∧ ft (l i) a b = true := by
  unfold dgB at h
  rw [Bool.and_eq_true, decide_eq_true_eq] at h
  exact h
theorem dg_n {l : Pg} {L i : Nat} {a b : Int32} (h : dgB l L i a b = false) : L ≤ i ∨ (i < L ∧ ft (l i) a b = false) := by
  unfold dgB at h
  by_cases hi : i < L
  · rw [decide_eq_true hi, Bool.true_and] at h
    exact Or.inr ⟨hi, h⟩
  · exact Or.inl (by omega)
def sb (st x : Int32) : Int32 :=
  if st = 0 then (if x = 77 then 1 else 7)
  else if st = 1 then (if x = 78 then 2 else if x = 82 then 6 else if x = 83 then 5 else 7)
  else if st = 2 then (if ft x 48 51 then 3 else 7)
  else if st = 3 then (if ft x 48 54 then 4 else 7)
  else if st = 4 then (if ft x 48 57 then 1 else 7)
  else if st = 5 then (if ft x 48 52 then 1 else 7)
  else if st = 6 then (if ft x 49 52 then 1 else 7)
  else 7
theorem s_step {X : HI} {Y : HL} (st x : Int32) : f_Txt_stepBehind st x X Y = rI (sb st x) X Y := by
  have fts : ∀ (a b v : Int32), bi (f_Bri_isFromTo x a b X Y) (fun r6 X4 Y5 => (if r6 = 0 then (rI (7 : Int32) X4 Y5) else (rI v X4 Y5))) = rI (if ft x a b then v else 7) X Y := by
    intro a b v
    cases h : ft x a b with
    | false => rw [s_isFTn h, bi_rI, if_pos z00, if_neg (show ¬ false = true by decide)]
    | true => rw [s_isFTy h, bi_rI, if_neg n10, if_pos rfl]
  unfold f_Txt_stepBehind f_Txt_stepIntoThing sb
  rw [fts, fts, fts, fts, fts]
  split
  · split <;> rfl
  · split
    · split
      · rfl
      · split
        · rfl
        · split <;> rfl
    · split
      · rfl
      · split
        · rfl
        · split
          · rfl
          · split
            · rfl
            · split <;> rfl
section FF
variable {X : HI} {Y : HL} {L : Nat} {l : Pg}
def kxF : Int32 → Int32 → Int32 → Int32 → HI → HL → Option Out := fun w4 w5 w6 w7 X8 Y9 => (if w4 = (1 : Int32) then (rI (-9 : Int32) X8 Y9) else (rI (X8 1 1) X8 Y9))
theorem ff_end (hL : X 1 1 = nI L) (h36 : L ≤ 36) {f i : Nat} {st : Int32} {p q : Int32} (hi : L ≤ i) (hi2 : i < 100) : l_Txt_firstFault_9 kxF (f + 1) st p q (nI i) X Y = rI (if st = 1 then -9 else nI L) X Y := by
  rw [l_Txt_firstFault_9, hL, if_pos (nI_le hi (by omega))]
  unfold kxF
  rw [hL]
  split <;> rfl
theorem ff_1 (hL : X 1 1 = nI L) (h36 : L ≤ 36) (hl : ∀ k, k < L → X 2 k = l k) {f i : Nat} {st p q : Int32} (hi : i < L) : l_Txt_firstFault_9 kxF (f + 1) st p q (nI i) X Y = (if sb st (l i) = 2 then b_Txt_firstFault_38 (fun a1 a2 a3 a4 A B => l_Txt_firstFault_9 kxF f a1 a2 a3 a4 A B) kxF (sb st (l i)) (p + 1) q (nI i) X Y else b_Txt_firstFault_38 (fun a1 a2 a3 a4 A B => l_Txt_firstFault_9 kxF f a1 a2 a3 a4 A B) kxF (sb st (l i)) p q (nI i) X Y) := by
  rw [l_Txt_firstFault_9, hL, if_neg (nI_ge hi (by omega)), ixb_nI (by omega) (by decide), gd_t, cl_nI (by omega), hl i hi, s_step, bi_rI]
theorem ff_7 (hL : X 1 1 = nI L) (h36 : L ≤ 36) (hl : ∀ k, k < L → X 2 k = l k) {f i : Nat} {st p q : Int32} (hi : i < L) (hs : sb st (l i) = 7) : l_Txt_firstFault_9 kxF (f + 1) st p q (nI i) X Y = rI (nI i) X Y := by
  rw [ff_1 hL h36 hl hi, hs, if_neg (by decide)]
  unfold b_Txt_firstFault_38 b_Txt_firstFault_52
  rw [if_neg (show ¬ (7 : Int32) = 5 by decide), if_neg (show ¬ (7 : Int32) = 6 by decide), if_pos rfl]
theorem ff_go (hL : X 1 1 = nI L) (h36 : L ≤ 36) (hl : ∀ k, k < L → X 2 k = l k) {f i p q : Nat} {st r : Int32} (hi : i < L) (hp : p ≤ 6) (hq : q ≤ 5) (hr : r = 1 ∨ r = 3 ∨ r = 4) (hs : sb st (l i) = r) : l_Txt_firstFault_9 kxF (f + 1) st (nI p) (nI q) (nI i) X Y = l_Txt_firstFault_9 kxF f r (nI p) (nI q) (nI (i + 1)) X Y := by
  have e6 : ¬ (6 : Int32) < nI p := by rw [i_lt, nI_toInt (by omega), show (6 : Int32).toInt = 6 from by decide]; omega
  have e5 : nI q ≤ (5 : Int32) := nI_le (b := 5) hq (by omega)
  rw [ff_1 hL h36 hl hi, hs]
  unfold b_Txt_firstFault_38 b_Txt_firstFault_52
  rcases hr with rfl | rfl | rfl
  · rw [if_neg (show ¬ (1 : Int32) = 2 by decide), if_neg (show ¬ (1 : Int32) = 5 by decide), if_neg (show ¬ (1 : Int32) = 6 by decide), if_neg (show ¬ (1 : Int32) = 7 by decide), if_neg e6, if_pos e5, nI_up]
  · rw [if_neg (show ¬ (3 : Int32) = 2 by decide), if_neg (show ¬ (3 : Int32) = 5 by decide), if_neg (show ¬ (3 : Int32) = 6 by decide), if_neg (show ¬ (3 : Int32) = 7 by decide), if_neg e6, if_pos e5, nI_up]
  · rw [if_neg (show ¬ (4 : Int32) = 2 by decide), if_neg (show ¬ (4 : Int32) = 5 by decide), if_neg (show ¬ (4 : Int32) = 6 by decide), if_neg (show ¬ (4 : Int32) = 7 by decide), if_neg e6, if_pos e5, nI_up]
theorem ff_N (hL : X 1 1 = nI L) (h36 : L ≤ 36) (hl : ∀ k, k < L → X 2 k = l k) {f i p q : Nat} {st : Int32} (hi : i < L) (hp : p ≤ 6) (hq : q ≤ 5) (hs : sb st (l i) = 2) : l_Txt_firstFault_9 kxF (f + 1) st (nI p) (nI q) (nI i) X Y = if p < 6 then l_Txt_firstFault_9 kxF f 2 (nI (p + 1)) (nI q) (nI (i + 1)) X Y else rI (nI i) X Y := by
  have e5 : nI q ≤ (5 : Int32) := nI_le (b := 5) hq (by omega)
  rw [ff_1 hL h36 hl hi, hs, if_pos rfl]
  unfold b_Txt_firstFault_38 b_Txt_firstFault_52
  rw [if_neg (show ¬ (2 : Int32) = 5 by decide), if_neg (show ¬ (2 : Int32) = 6 by decide), if_neg (show ¬ (2 : Int32) = 7 by decide), nI_up, nI_up]
  by_cases h6 : p < 6
  · rw [if_neg (show ¬ (6 : Int32) < nI (p + 1) by rw [i_lt, nI_toInt (by omega), show (6 : Int32).toInt = 6 from by decide]; omega), if_pos e5, if_pos h6]
  · rw [if_pos (show (6 : Int32) < nI (p + 1) by rw [i_lt, nI_toInt (by omega), show (6 : Int32).toInt = 6 from by decide]; omega), if_neg h6]
theorem ff_S (hL : X 1 1 = nI L) (h36 : L ≤ 36) (hl : ∀ k, k < L → X 2 k = l k) {f i p q : Nat} {st r : Int32} (hi : i < L) (hp : p ≤ 6) (hq : q ≤ 5) (hr : r = 5 ∨ r = 6) (hs : sb st (l i) = r) : l_Txt_firstFault_9 kxF (f + 1) st (nI p) (nI q) (nI i) X Y = if q < 5 then l_Txt_firstFault_9 kxF f r (nI p) (nI (q + 1)) (nI (i + 1)) X Y else rI (nI i) X Y := by
  have e6 : ¬ (6 : Int32) < nI p := by rw [i_lt, nI_toInt (by omega), show (6 : Int32).toInt = 6 from by decide]; omega
  have hn2 : ¬ r = 2 := by rcases hr with rfl | rfl <;> decide
  have hn7 : ¬ r = 7 := by rcases hr with rfl | rfl <;> decide
  rw [ff_1 hL h36 hl hi, hs, if_neg hn2]
  have key : b_Txt_firstFault_49 (fun a1 a2 a3 a4 A B => l_Txt_firstFault_9 kxF f a1 a2 a3 a4 A B) kxF r (nI p) (nI q) (nI i) X Y = if q < 5 then l_Txt_firstFault_9 kxF f r (nI p) (nI (q + 1)) (nI (i + 1)) X Y else rI (nI i) X Y := by
    unfold b_Txt_firstFault_49 b_Txt_firstFault_52
    rw [if_neg hn7, if_neg e6, nI_up, nI_up]
    by_cases h5 : q < 5
    · rw [if_pos (show nI (q + 1) ≤ (5 : Int32) from nI_le (b := 5) (by omega) (by omega)), if_pos h5]
    · rw [if_neg (show ¬ nI (q + 1) ≤ (5 : Int32) from nI_ge (a := 5) (by omega) (by omega)), if_neg h5]
  unfold b_Txt_firstFault_38
  rw [key]
  rcases hr with rfl | rfl
  · rw [if_pos (show (5 : Int32) = 5 from rfl)]
  · rw [if_neg (show ¬ (6 : Int32) = 5 by decide), if_pos (show (6 : Int32) = 6 from rfl)]
theorem ff_rd (hL : X 1 1 = nI L) (h36 : L ≤ 36) (hl : ∀ k, k < L → X 2 k = l k) : ∀ g f i (σ : St), L - i < g → L - i < f → i ≤ L → σ.p ≤ 6 → σ.q ≤ 5 → l_Txt_firstFault_9 kxF f 1 (nI σ.p) (nI σ.q) (nI i) X Y = rI (rd l L g i σ).1 X Y := by
  intro g
  induction g with
  | zero => intro f i σ h; omega
  | succ g ih =>
    intro f i σ h hf hiL hp hq
    obtain ⟨f, rfl⟩ : ∃ f', f = f' + 1 := ⟨f - 1, by omega⟩
    by_cases hi : L ≤ i
    · rw [ff_end hL h36 hi (by omega), rd_end hi, if_pos rfl]
    · have hi' : i < L := by omega
      have dig : ∀ (f j p q : Nat) (st a b nx : Int32), L - j < f → j ≤ L → p ≤ 6 → q ≤ 5 → (nx = 1 ∨ nx = 3 ∨ nx = 4) → ¬ st = 1 → (∀ x, sb st x = if ft x a b then nx else 7) → l_Txt_firstFault_9 kxF f st (nI p) (nI q) (nI j) X Y = if dgB l L j a b then l_Txt_firstFault_9 kxF (f - 1) nx (nI p) (nI q) (nI (j + 1)) X Y else rI (nI j) X Y := by
        intro f j p q st a b nx hf hj hp hq hnx hst hsb
        obtain ⟨f, rfl⟩ : ∃ f', f = f' + 1 := ⟨f - 1, by omega⟩
        cases hd : dgB l L j a b with
        | true =>
          obtain ⟨d1, d2⟩ := dg_y hd
          rw [ff_go hL h36 hl d1 hp hq hnx (by rw [hsb, d2, if_pos rfl]), if_pos rfl]
          rfl
        | false =>
          rw [if_neg (show ¬ false = true by decide)]
          rcases dg_n hd with d1 | ⟨d1, d2⟩
          · rw [ff_end hL h36 d1 (by omega), if_neg hst, show L = j by omega]
          · exact ff_7 hL h36 hl d1 (by rw [hsb, d2, if_neg (by decide)])
      have s2 : ∀ x, sb 2 x = if ft x 48 51 then 3 else 7 := fun x => rfl
      have s3 : ∀ x, sb 3 x = if ft x 48 54 then 4 else 7 := fun x => rfl
      have s4 : ∀ x, sb 4 x = if ft x 48 57 then 1 else 7 := fun x => rfl
      have s5 : ∀ x, sb 5 x = if ft x 48 52 then 1 else 7 := fun x => rfl
      have s6 : ∀ x, sb 6 x = if ft x 49 52 then 1 else 7 := fun x => rfl
      have s1 : sb 1 (l i) = if l i = 78 then 2 else if l i = 82 then 6 else if l i = 83 then 5 else 7 := rfl
      by_cases hN : l i = 78
      · rw [if_pos hN] at s1
        rw [ff_N hL h36 hl hi' hp hq s1]
        by_cases h6 : σ.p < 6
        · rw [if_pos h6, dig f (i + 1) (σ.p + 1) σ.q 2 48 51 3 (by omega) (by omega) (by omega) hq (by decide) (by decide) s2]
          cases d1 : dgB l L (i + 1) 48 51 with
          | false =>
            rw [if_neg (show ¬ false = true by decide), rd_no hi (pos := i + 1) (by unfold stp; rw [if_pos hN, if_pos h6, d1, if_neg (show ¬ false = true by decide)])]
          | true =>
            have y1 := (dg_y d1).1
            rw [if_pos rfl, dig (f - 1) (i + 1 + 1) (σ.p + 1) σ.q 3 48 54 4 (by omega) (by omega) (by omega) hq (by decide) (by decide) s3]
            cases d2 : dgB l L (i + 1 + 1) 48 54 with
            | false =>
              rw [if_neg (show ¬ false = true by decide), rd_no hi (pos := i + 2) (by unfold stp; rw [if_pos hN, if_pos h6, d1, if_pos rfl, show i + 2 = i + 1 + 1 from rfl, d2, if_neg (show ¬ false = true by decide)])]
            | true =>
              have y2 := (dg_y d2).1
              rw [if_pos rfl, dig (f - 1 - 1) (i + 1 + 1 + 1) (σ.p + 1) σ.q 4 48 57 1 (by omega) (by omega) (by omega) hq (by decide) (by decide) s4]
              cases d3 : dgB l L (i + 1 + 1 + 1) 48 57 with
              | false =>
                rw [if_neg (show ¬ false = true by decide), rd_no hi (pos := i + 3) (by unfold stp; rw [if_pos hN, if_pos h6, d1, if_pos rfl, show i + 2 = i + 1 + 1 from rfl, d2, if_pos rfl, show i + 3 = i + 1 + 1 + 1 from rfl, d3, if_neg (show ¬ false = true by decide)])]
              | true =>
                have y3 := (dg_y d3).1
                rw [if_pos rfl, rd_so hi (pos := i + 4) (σ' := adP σ (l (i + 1) - 48) (l (i + 2) - 48) (10 * (l (i + 3) - 48))) (by unfold stp; rw [if_pos hN, if_pos h6, d1, if_pos rfl, show i + 2 = i + 1 + 1 from rfl, d2, if_pos rfl, show i + 3 = i + 1 + 1 + 1 from rfl, d3, if_pos rfl])]
                exact ih (f - 1 - 1 - 1) (i + 4) (adP σ (l (i + 1) - 48) (l (i + 2) - 48) (10 * (l (i + 3) - 48))) (by omega) (by omega) (by omega) (by show σ.p + 1 ≤ 6; omega) hq
        · rw [if_neg h6, rd_no hi (pos := i) (by unfold stp; rw [if_pos hN, if_neg h6])]
      · rw [if_neg hN] at s1
        by_cases hR : l i = 82
        · rw [if_pos hR] at s1
          rw [ff_S hL h36 hl hi' hp hq (Or.inr rfl) s1]
          by_cases h5 : σ.q < 5
          · rw [if_pos h5, dig f (i + 1) σ.p (σ.q + 1) 6 49 52 1 (by omega) (by omega) hp (by omega) (by decide) (by decide) s6]
            cases d1 : dgB l L (i + 1) 49 52 with
            | false =>
              rw [if_neg (show ¬ false = true by decide), rd_no hi (pos := i + 1) (by unfold stp; rw [if_neg hN, if_pos hR, if_pos h5, d1, if_neg (show ¬ false = true by decide)])]
            | true =>
              have y1 := (dg_y d1).1
              rw [if_pos rfl, rd_so hi (pos := i + 2) (σ' := adS σ (-(l (i + 1) - 48))) (by unfold stp; rw [if_neg hN, if_pos hR, if_pos h5, d1, if_pos rfl])]
              exact ih (f - 1) (i + 2) (adS σ (-(l (i + 1) - 48))) (by omega) (by omega) (by omega) hp (by show σ.q + 1 ≤ 5; omega)
          · rw [if_neg h5, rd_no hi (pos := i) (by unfold stp; rw [if_neg hN, if_pos hR, if_neg h5])]
        · rw [if_neg hR] at s1
          by_cases hS : l i = 83
          · rw [if_pos hS] at s1
            rw [ff_S hL h36 hl hi' hp hq (Or.inl rfl) s1]
            by_cases h5 : σ.q < 5
            · rw [if_pos h5, dig f (i + 1) σ.p (σ.q + 1) 5 48 52 1 (by omega) (by omega) hp (by omega) (by decide) (by decide) s5]
              cases d1 : dgB l L (i + 1) 48 52 with
              | false =>
                rw [if_neg (show ¬ false = true by decide), rd_no hi (pos := i + 1) (by unfold stp; rw [if_neg hN, if_neg hR, if_pos hS, if_pos h5, d1, if_neg (show ¬ false = true by decide)])]
              | true =>
                have y1 := (dg_y d1).1
                rw [if_pos rfl, rd_so hi (pos := i + 2) (σ' := adS σ (l (i + 1) - 48)) (by unfold stp; rw [if_neg hN, if_neg hR, if_pos hS, if_pos h5, d1, if_pos rfl])]
                exact ih (f - 1) (i + 2) (adS σ (l (i + 1) - 48)) (by omega) (by omega) (by omega) hp (by show σ.q + 1 ≤ 5; omega)
            · rw [if_neg h5, rd_no hi (pos := i) (by unfold stp; rw [if_neg hN, if_neg hR, if_pos hS, if_neg h5])]
          · rw [if_neg hS] at s1
            rw [ff_7 hL h36 hl hi' s1, rd_no hi (pos := i) (by unfold stp; rw [if_neg hN, if_neg hR, if_neg hS])]
theorem s_firstFault (hL : X 1 1 = nI L) (h36 : L ≤ 36) (hl : ∀ k, k < L → X 2 k = l k) {σ : St} (hp : σ.p = 0) (hq : σ.q = 0) : f_Txt_firstFault X Y = rI (rd0 l L σ).1 X Y := by
  unfold f_Txt_firstFault rd0
  show l_Txt_firstFault_9 kxF (255 + 1) 0 (nI 0) (nI 0) (nI 0) X Y = _
  by_cases h0 : L = 0
  · rw [if_pos h0, ff_end hL h36 (by omega) (by omega), if_neg (show ¬ (0 : Int32) = 1 by decide), h0]
    rfl
  · rw [if_neg h0]
    have s0 : sb 0 (l 0) = if l 0 = 77 then 1 else 7 := rfl
    by_cases hM : l 0 = 77
    · rw [if_pos hM] at s0 ⊢
      rw [ff_go hL h36 hl (by omega) (by omega) (by omega) (Or.inl rfl) s0]
      have e := ff_rd (Y := Y) hL h36 hl 40 255 1 σ (by omega) (by omega) (by omega) (by omega) (by omega)
      rw [hp, hq] at e
      exact e
    · rw [if_neg hM] at s0 ⊢
      exact ff_7 hL h36 hl (by omega) s0
end FF
