/-! bounds of a page stay; the model's day is the class's -/
theorem upd_id (g : Pg) (k : Nat) : upd g k (g k) = g := by
  funext j
  by_cases h : j = k
  · subst h; rw [upd_s]
  · rw [upd_n _ _ h]
theorem brP_b {g : Pg} (h : okG g) {k : Nat} (hk : k < 6) : 0 ≤ (brP g k).toInt ∧ (brP g k).toInt ≤ (g (6 + k)).toInt ∧ (brP g k).toInt ≤ 8 * (g k).toInt := by
  obtain ⟨⟨h1, h2⟩, h3, h4⟩ := h k hk
  have e8 : ((8 : Int32) * g k).toInt = 8 * (g k).toInt := by
    have e : (8 : Int32).toInt = 8 := by decide
    rw [i_mul (by rw [e]; omega) (by rw [e]; omega), e]
  unfold brP
  by_cases hc : (8 : Int32) * g k ≤ g (6 + k)
  · rw [if_pos hc]
    rw [i_le] at hc
    omega
  · rw [if_neg hc]
    rw [i_le] at hc
    omega
theorem crP_b {g : Pg} (h : okG g) {k : Nat} (hk : k < 6) : 0 ≤ (crP g k).toInt ∧ (crP g k).toInt ≤ 999 ∧ (crP g k).toInt = (g (6 + k)).toInt - (brP g k).toInt := by
  obtain ⟨b1, b2, b3⟩ := brP_b h hk
  obtain ⟨⟨h1, h2⟩, h3, h4⟩ := h k hk
  unfold crP
  rw [i_sub (by omega) (by omega)]
  omega
theorem goP_b {g : Pg} (h : okG g) {k : Nat} (hk : k < 6) {x : Int32} (h1 : 1 ≤ x.toInt) (h2 : x.toInt ≤ (g k).toInt) : 0 ≤ (goP g k x).toInt ∧ (goP g k x).toInt ≤ (brP g k).toInt := by
  obtain ⟨b1, b2, b3⟩ := brP_b h hk
  obtain ⟨⟨c1, c2⟩, c3, c4⟩ := h k hk
  have em : (brP g k * x).toInt = (brP g k).toInt * x.toInt := by
    have u : (brP g k).toInt * x.toInt ≤ 72 * 9 := Int.mul_le_mul (by omega) (by omega) (by omega) (by omega)
    have l : 0 ≤ (brP g k).toInt * x.toInt := Int.mul_nonneg b1 (by omega)
    exact i_mul (by omega) (by omega)
  unfold goP
  rw [i_div (by omega), em]
  have hw : 0 < (g k).toInt := by omega
  rw [Int.tdiv_eq_ediv_of_nonneg (Int.mul_nonneg b1 (by omega))]
  refine ⟨Int.ediv_nonneg (Int.mul_nonneg b1 (by omega)) (by omega), ?_⟩
  apply Int.ediv_le_of_le_mul hw
  exact Int.mul_le_mul_of_nonneg_left h2 b1
theorem okG_upd {g : Pg} (h : okG g) {c : Nat} {v : Int32} (hv : (c < 6 → 0 ≤ v.toInt ∧ v.toInt ≤ 9) ∧ (6 ≤ c → c < 12 → 0 ≤ v.toInt ∧ v.toInt ≤ 999)) : okG (upd g c v) := by
  intro k hk
  obtain ⟨h1, h2⟩ := h k hk
  refine ⟨?_, ?_⟩
  · by_cases e : k = c
    · subst e; rw [upd_s]; exact hv.1 hk
    · rw [upd_n _ _ e]; exact h1
  · by_cases e : 6 + k = c
    · subst e; rw [upd_s]; exact hv.2 (by omega) (by omega)
    · rw [upd_n _ _ e]; exact h2
theorem okG_dr {g : Pg} (h : okG g) {k : Nat} (hk : k < 6) {x : Int32} (h1 : 1 ≤ x.toInt) (h2 : x.toInt ≤ (g k).toInt) : okG (drP g k x) := by
  obtain ⟨g1, g2⟩ := goP_b h hk h1 h2
  obtain ⟨b1, b2, b3⟩ := brP_b h hk
  obtain ⟨⟨c1, c2⟩, c3, c4⟩ := h k hk
  unfold drP
  refine okG_upd (okG_upd h ⟨fun _ => ?_, fun h6 _ => absurd h6 (by omega)⟩) ⟨fun h6 => absurd h6 (by omega), fun _ _ => ?_⟩
  · rw [i_sub (by omega) (by omega)]; omega
  · rw [i_sub (by omega) (by omega)]; omega
theorem cap_b {v : Int32} (h : 0 ≤ v.toInt) : 0 ≤ (cap v).toInt ∧ (cap v).toInt ≤ 999 := by
  unfold cap
  have e : (999 : Int32).toInt = 999 := by decide
  by_cases hc : v ≤ 999
  · rw [if_pos hc]; rw [i_le, e] at hc; omega
  · rw [if_neg hc, e]; omega
theorem okG_fl {g : Pg} (h : okG g) {k : Nat} (hk : k < 6) {x s : Int32} (h1 : 0 ≤ x.toInt) (h2 : (g k).toInt + x.toInt ≤ 9) (h3 : 0 ≤ s.toInt) (h4 : s.toInt ≤ 2000) : okG (flP g k x s) := by
  obtain ⟨⟨c1, c2⟩, c3, c4⟩ := h k hk
  unfold flP
  refine okG_upd (okG_upd h ⟨fun _ => ?_, fun h6 _ => absurd h6 (by omega)⟩) ⟨fun h6 => absurd h6 (by omega), fun _ _ => ?_⟩
  · rw [i_add (by omega) (by omega)]; omega
  · apply cap_b
    rw [i_add (by omega) (by omega)]; omega
theorem dpP_b (kd : Pg) (k : Nat) : (dpP kd k).toInt = 9 ∨ (dpP kd k).toInt = 6 := by
  unfold dpP
  split
  · left; decide
  · right; decide
theorem rmP_b {kd g : Pg} (h : okG g) {k : Nat} (hk : k < 6) : (rmP kd g k).toInt = (dpP kd k).toInt - (g k).toInt := by
  obtain ⟨⟨c1, c2⟩, c3, c4⟩ := h k hk
  have := dpP_b kd k
  unfold rmP
  rw [i_sub (by omega) (by omega)]
theorem okG_le {kd g : Pg} (h : okG g) {k : Nat} (hk : k + 1 < 6) {x : Int32} (h1 : 1 ≤ x.toInt) (h2 : x.toInt ≤ (g k).toInt) (h3 : x.toInt ≤ (rmP kd g (k + 1)).toInt) : okG (leP g k x) := by
  rw [rmP_b h hk] at h3
  obtain ⟨g1, g2⟩ := goP_b h (by omega) h1 h2
  obtain ⟨b1, b2, b3⟩ := brP_b h (show k < 6 by omega)
  obtain ⟨⟨c1, c2⟩, c3, c4⟩ := h k (by omega)
  have e1 : drP g k x (k + 1) = g (k + 1) := by
    unfold drP
    rw [upd_n _ _ (by omega), upd_n _ _ (by omega)]
  have := dpP_b kd (k + 1)
  unfold leP
  exact okG_fl (okG_dr h (by omega) h1 h2) hk (by omega) (by rw [e1]; omega) g1 (by omega)
theorem ft_b {x : Int32} (h : ft x 1 9 = true) : 1 ≤ x.toInt ∧ x.toInt ≤ 9 := by
  simp only [ft, Bool.and_eq_true, Bool.not_eq_true', decide_eq_false_iff_not, i_lt, i1] at h
  have e : (9 : Int32).toInt = 9 := by decide
  rw [e] at h
  omega
theorem okG_letR {kd g : Pg} (h : okG g) {k : Nat} (hk : k + 1 < 6) (x : Int32) : okG (letR kd g k x).2 := by
  unfold letR
  split
  · exact h
  · next hf =>
    have hf2 : ft x 1 9 = true := by cases hh : ft x 1 9 with
      | true => rfl
      | false => exact absurd hh hf
    have hb := ft_b hf2
    split
    · exact h
    · next h2 =>
      split
      · exact h
      · next h3 =>
        rw [i_lt] at h2 h3
        exact okG_le (kd := kd) h hk hb.1 (by omega) (by omega)
theorem okG_seaR {kd g : Pg} (h : okG g) (x : Int32) : okG (seaR kd g x).2 := by
  unfold seaR
  split
  · exact h
  · next hf =>
    have hf2 : ft x 1 9 = true := by cases hh : ft x 1 9 with
      | true => rfl
      | false => exact absurd hh hf
    have hb := ft_b hf2
    split
    · exact h
    · next h3 =>
      rw [i_lt, rmP_b h (by omega)] at h3
      have := dpP_b kd 0
      have e2 : ((2 : Int32) * x).toInt = 2 * x.toInt := by
        have e : (2 : Int32).toInt = 2 := by decide
        rw [i_mul (by rw [e]; omega) (by rw [e]; omega), e]
      exact okG_fl h (by omega) (by omega) (by omega) (by omega) (by omega)
theorem okG_ra {g : Pg} (h : okG g) {k : Nat} (hk : k < 6) : okG (raP g k) := by
  obtain ⟨c1, c2, c3⟩ := crP_b h hk
  obtain ⟨b1, b2, b3⟩ := brP_b h hk
  obtain ⟨⟨d1, d2⟩, d3, d4⟩ := h k hk
  unfold raP
  refine okG_upd (okG_upd h ⟨fun h6 => absurd h6 (by omega), fun _ _ => ?_⟩) ⟨fun h6 => absurd h6 (by omega), fun _ h6 => absurd h6 (by omega)⟩
  rw [i_sub (by omega) (by omega)]; omega
theorem okG_rakeR {g : Pg} (h : okG g) {k : Nat} (hk : k < 6) : okG (rakeR g k).2 := by
  unfold rakeR
  split
  · exact okG_ra h hk
  · exact h
theorem okG_tu {g : Pg} (h : okG g) (v : Int32) : okG (upd g 12 v) := okG_upd h ⟨fun h6 => absurd h6 (by omega), fun _ h6 => absurd h6 (by omega)⟩
theorem okG_14 {g : Pg} (h : okG g) (v : Int32) : okG (upd g 14 v) := okG_upd h ⟨fun h6 => absurd h6 (by omega), fun _ h6 => absurd h6 (by omega)⟩
theorem okG_lg {kd g : Pg} (h : okG g) : ∀ i, i < 6 → okG (lgP kd g i)
  | 0, _ => h
  | i + 1, hi => by
    rw [lgP]
    unfold stL
    split
    · exact okG_letR (okG_lg h i (by omega)) (by omega) 1
    · exact okG_lg h i (by omega)
theorem okG_lk {kd g : Pg} (h : okG g) : ∀ i, i ≤ 6 → okG (lkP kd g i)
  | 0, _ => h
  | i + 1, hi => by
    rw [lkP]
    unfold stK
    have ih := okG_lk (kd := kd) h i (by omega)
    split
    · split
      · next h1 =>
        rw [i_le, i1] at h1
        exact okG_dr ih (by omega) (by rw [i1]; omega) (by rw [i1]; exact h1)
      · exact ih
    · exact ih
theorem okG_rai {kd g : Pg} (h : okG g) {e : Int32} (he : 0 ≤ e.toInt) : ∀ i, i ≤ 6 → okG (raiP kd g e i)
  | 0, _ => h
  | i + 1, hi => by
    have ih := okG_rai (kd := kd) h he i (by omega)
    rw [raiP]
    unfold stR
    refine okG_upd ih ⟨fun _ => ?_, fun h6 _ => absurd h6 (by omega)⟩
    have hr := rmP_b (kd := kd) ih (show i < 6 by omega)
    have hd := dpP_b kd i
    obtain ⟨⟨c1, c2⟩, c3, c4⟩ := ih i (by omega)
    by_cases hc : rmP kd (raiP kd g e i) i < e
    · rw [if_pos hc, i_add (by omega) (by omega)]; omega
    · rw [if_neg hc]
      rw [i_lt] at hc
      rw [i_add (by omega) (by omega)]; omega
theorem okG_shi {kd g : Pg} (h : okG g) {e : Int32} (he : 0 ≤ e.toInt) (he4 : e.toInt ≤ 4) : ∀ i, i ≤ 6 → okG (shiP kd g e i)
  | 0, _ => h
  | i + 1, hi => by
    have ih := okG_shi (kd := kd) h he he4 i (by omega)
    rw [shiP]
    unfold stS
    refine okG_upd ih ⟨fun _ => ?_, fun h6 _ => absurd h6 (by omega)⟩
    obtain ⟨⟨c1, c2⟩, c3, c4⟩ := ih i (by omega)
    have hs : 0 ≤ (if kd i = 2 then e + 1 else e).toInt ∧ (if kd i = 2 then e + 1 else e).toInt ≤ 5 := by
      split
      · rw [i_add (by rw [i1]; omega) (by rw [i1]; omega), i1]; omega
      · omega
    generalize (if kd i = 2 then e + 1 else e) = s at hs
    by_cases hc : (0 : Int32) < shiP kd g e i i - s
    · rw [if_pos hc]
      rw [i_lt, i0, i_sub (by omega) (by omega)] at hc
      rw [i_sub (by omega) (by omega)]
      omega
    · rw [if_neg hc, i0]; omega
def okS4 (sk : Pg) : Prop := ∀ k, k < 5 → -4 ≤ (sk k).toInt ∧ (sk k).toInt ≤ 4
theorem skP_b {m : Nat} {sk : Pg} (hm : m ≤ 5) (h : okS4 sk) (t : Nat) : -4 ≤ (skP m sk t).toInt ∧ (skP m sk t).toInt ≤ 4 := by
  unfold skP
  split
  · rw [i0]; omega
  · exact h _ (Nat.lt_of_lt_of_le (Nat.mod_lt _ (by omega)) hm)
theorem neg_b {e : Int32} (h1 : -4 ≤ e.toInt) (h2 : e.toInt ≤ 4) : (-e).toInt = -e.toInt := by
  rw [Int32.toInt_neg, i_bm (by omega) (by omega)]
theorem okG_sky {n : Nat} (hn : n ≤ 6) {kd g : Pg} (h : okG g) {e : Int32} (h1 : -4 ≤ e.toInt) (h2 : e.toInt ≤ 4) (c : Bool) : okG (skyP n kd g e c) := by
  unfold skyP
  split
  · next h3 =>
    rw [i_le, i0] at h3
    split
    · exact h
    · split
      · exact h
      · exact okG_shi h h3 h2 n hn
  · next h3 =>
    rw [i_le, i0] at h3
    exact okG_rai h (by rw [neg_b h1 h2]; omega) n hn
theorem okG_day {n m : Nat} (hn : n ≤ 6) (hm : m ≤ 5) {kd sk g : Pg} (hs : okS4 sk) (h : okG g) (c : Bool) : okG (dayP n m kd sk g c) := by
  unfold dayP
  have hb := skP_b hm hs (g 14).toNatClampNeg
  exact okG_14 (okG_sky hn (okG_lk (okG_lg h (n - 1) (by omega)) n hn) hb.1 hb.2 c) _
theorem okG_days {n m : Nat} (hn : n ≤ 6) (hm : m ≤ 5) {kd sk g : Pg} (hs : okS4 sk) (h : okG g) : ∀ j, okG (daysP n m kd sk g j)
  | 0 => h
  | j + 1 => okG_day hn hm hs (okG_days hn hm hs h j) false
-- the weather as the model has it
theorem watP_ge (kd g : Pg) (e : Int32) : ∀ (i k : Nat), i ≤ k → watP kd g e i k = g k
  | 0, _, _ => rfl
  | i + 1, k, h => by
    rw [watP]
    unfold wthP stR
    split
    · rw [upd_n _ _ (by omega), watP_ge kd g e i k (by omega)]
    · rw [upd_n _ _ (by omega), watP_ge kd g e i k (by omega)]
theorem wat_0 (kd : Pg) {g : Pg} (h : okG g) : ∀ i, i ≤ 6 → watP kd g 0 i = g
  | 0, _ => rfl
  | i + 1, hi => by
    rw [watP, wat_0 kd h i (by omega)]
    unfold wthP
    rw [if_pos (Int32.le_refl 0), if_pos (Int32.le_refl 0), Int32.add_zero, if_pos (by rw [i_le, i0]; exact (h i (by omega)).1.1), Int32.sub_zero, upd_id]
theorem wat_n (kd g : Pg) {e : Int32} (he : ¬ 0 ≤ e) : ∀ i, watP kd g e i = raiP kd g (-e) i
  | 0 => rfl
  | i + 1 => by
    rw [watP, wat_n kd g he i, raiP]
    unfold wthP
    rw [if_neg he]
theorem wat_p (kd : Pg) {g : Pg} (h : okG g) {e : Int32} (he : ¬ e ≤ 0) (he4 : e.toInt ≤ 4) : ∀ i, i ≤ 6 → watP kd g e i = shiP kd g e i
  | 0, _ => rfl
  | i + 1, hi => by
    rw [i_le, i0] at he
    have ih := wat_p kd h (e := e) (by rw [i_le, i0]; exact he) he4 i (by omega)
    have okh := okG_shi (kd := kd) h (e := e) (by omega) he4 i (by omega)
    rw [watP, ih, shiP]
    unfold wthP stS
    have hne : ¬ e ≤ 0 := by rw [i_le, i0]; exact he
    rw [if_pos (show 0 ≤ e by rw [i_le, i0]; omega), if_neg hne]
    obtain ⟨⟨c1, c2⟩, c3, c4⟩ := okh i (by omega)
    have hs : 0 ≤ (if kd i = 2 then e + 1 else e).toInt ∧ (if kd i = 2 then e + 1 else e).toInt ≤ 5 := by
      split
      · rw [i_add (by rw [i1]; omega) (by rw [i1]; omega), i1]; omega
      · omega
    have es : e + (if kd i = 2 then (1 : Int32) else 0) = (if kd i = 2 then e + 1 else e) := by
      split
      · rfl
      · rw [Int32.add_zero]
    rw [es]
    generalize (if kd i = 2 then e + 1 else e) = s at hs
    congr 1
    by_cases hc : s ≤ shiP kd g e i i
    · rw [if_pos hc]
      rw [i_le] at hc
      by_cases h0 : (0 : Int32) < shiP kd g e i i - s
      · rw [if_pos h0]
      · rw [if_neg h0, i_eq, i0]
        rw [i_lt, i0, i_sub (by omega) (by omega)] at h0
        rw [i_sub (by omega) (by omega)]
        omega
    · rw [if_neg hc, if_neg]
      rw [i_le] at hc
      rw [i_lt, i0, i_sub (by omega) (by omega)]
      omega
theorem dayM_eq {n m : Nat} (hn : n ≤ 6) (hm : m ≤ 5) {kd sk g : Pg} (hs : okS4 sk) (h : okG g) (c : Bool) : dayM n m kd sk g c = dayP n m kd sk g c := by
  unfold dayM dayP
  have hb := skP_b hm hs (g 14).toNatClampNeg
  have hq := okG_lk (okG_lg (kd := kd) h (n - 1) (by omega)) (kd := kd) n hn
  generalize lkP kd (lgP kd g (n - 1)) n = q at hq
  generalize skP m sk (g 14).toNatClampNeg = e at hb
  congr 1
  unfold skyP cldE
  by_cases h1 : 0 ≤ e
  · rw [if_pos h1]
    by_cases h2 : e ≤ 0
    · rw [if_pos h2, if_pos h2]
      have e0 : e = 0 := by rw [i_eq, i0]; rw [i_le, i0] at h1 h2; omega
      rw [e0, wat_0 kd hq n hn]
    · rw [if_neg h2, if_neg h2]
      cases c with
      | true => rw [if_pos rfl, if_pos rfl, wat_0 kd hq n hn]
      | false => rw [if_neg (by decide), if_neg (by decide), wat_p kd hq h2 hb.2 n hn]
  · rw [if_neg h1]
    have h2 : e ≤ 0 := by rw [i_le, i0]; rw [i_le, i0] at h1; omega
    rw [if_pos h2, wat_n kd q h1]
