/-! pages: what the methods do to them; the class's Ground and Pans -/
def brP (g : Pg) (k : Nat) : Int32 := if (8 : Int32) * g k ≤ g (6 + k) then (8 : Int32) * g k else g (6 + k)
def crP (g : Pg) (k : Nat) : Int32 := g (6 + k) - brP g k
def crA (g : Pg) : Nat → Int32
  | 0 => 0
  | n + 1 => crA g n + crP g n
def suA (g : Pg) (b : Nat) : Nat → Int32
  | 0 => 0
  | n + 1 => suA g b n + g (b + n)
def dpP (kd : Pg) (k : Nat) : Int32 := if kd k = 1 then 9 else 6
def rmP (kd g : Pg) (k : Nat) : Int32 := dpP kd k - g k
def goP (g : Pg) (k : Nat) (n : Int32) : Int32 := brP g k * n / g k
def drP (g : Pg) (k : Nat) (n : Int32) : Pg := upd (upd g k (g k - n)) (6 + k) (g (6 + k) - goP g k n)
def cap (v : Int32) : Int32 := if v ≤ 999 then v else 999
def cap9 (v : Int32) : Int32 := if v ≤ 9999 then v else 9999
def flP (g : Pg) (k : Nat) (n s : Int32) : Pg := upd (upd g k (g k + n)) (6 + k) (cap (g (6 + k) + s))
def leP (g : Pg) (k : Nat) (n : Int32) : Pg := flP (drP g k n) (k + 1) n (goP g k n)
def rkB (g : Pg) (k : Nat) : Bool := !decide ((1 : Int32) < g k) && !decide (crP g k ≤ 0)
def bit (k : Nat) : Int32 := (1 : Int32) <<< (nI k &&& 31)
def riA (g : Pg) : Nat → Int32
  | 0 => 0
  | n + 1 => riA g n ||| (if rkB g n then bit n else 0)
def raP (g : Pg) (k : Nat) : Pg := upd (upd g (6 + k) (g (6 + k) - crP g k)) 13 (cap9 (g 13 + crP g k))
def hasB (x : Int32) (k : Nat) : Bool := decide (((x >>> (nI k &&& 31)) &&& 1) = 1)
def tuP (g : Pg) (k : Nat) : Pg := upd g 12 (g 12 ^^^ bit k)
def ft (x a b : Int32) : Bool := !decide (x < a) && !decide (b < x)
def letR (kd g : Pg) (k : Nat) (n : Int32) : Int32 × Pg := if ft n 1 9 = false then (-2, g) else if g k < n then (-3, g) else if rmP kd g (k + 1) < n then (-4, g) else (goP g k n, leP g k n)
def seaR (kd g : Pg) (n : Int32) : Int32 × Pg := if ft n 1 9 = false then (-2, g) else if rmP kd g 0 < n then (-4, g) else (g 0 + n, flP g 0 n ((2 : Int32) * n))
def rakeR (g : Pg) (k : Nat) : Int32 × Pg := if rkB g k then (crP g k, raP g k) else (-3, g)
def turnR (g : Pg) (k : Nat) : Int32 × Pg := (if hasB (g 12) k then 0 else 1, tuP g k)
def EC (n m : Nat) (kd sk : Pg) (X : HI) : Prop := X 3 2 = nI n ∧ X 3 3 = nI m ∧ n ≤ 6 ∧ m ≤ 5 ∧ (∀ k, k < 6 → X 4 k = kd k) ∧ (∀ k, k < 5 → X 5 k = sk k)
def skP (m : Nat) (sk : Pg) (t : Nat) : Int32 := if m = 0 then 0 else sk (t % m)
theorem nI_up (k : Nat) : nI k + (1 : Int32) = nI (k + 1) := nI_1 k
theorem capC (v : Int32) : (if v < (999 : Int32) then v else (999 : Int32)) = cap v := by
  unfold cap
  by_cases h : v < 999
  · rw [if_pos h, if_pos (Int32.le_of_lt h)]
  · rw [if_neg h]
    by_cases h2 : v ≤ 999
    · rw [if_pos h2, i_eq]
      rw [i_lt] at h; rw [i_le] at h2
      omega
    · rw [if_neg h2]
theorem cap9C (v : Int32) : (if v < (9999 : Int32) then v else (9999 : Int32)) = cap9 v := by
  unfold cap9
  by_cases h : v < 9999
  · rw [if_pos h, if_pos (Int32.le_of_lt h)]
  · rw [if_neg h]
    by_cases h2 : v ≤ 9999
    · rw [if_pos h2, i_eq]
      rw [i_lt] at h; rw [i_le] at h2
      omega
    · rw [if_neg h2]
section PA
variable {X : HI} {Y : HL} {n m : Nat} {kd sk g : Pg} {p k : Nat}
theorem EC.set (hE : EC n m kd sk X) (hp : IsP p) : EC n m kd sk (setC X p g) := by
  unfold EC
  rw [setC_lo hp (by decide : 3 < 16), setC_lo hp (by decide : 4 < 16), setC_lo hp (by decide : 5 < 16)]
  exact hE
theorem n10 : ¬ (1 : Int32) = 0 := by decide
theorem ntf : ¬ (true = false) := by decide
theorem z00 : (0 : Int32) = 0 := rfl
theorem s_isFTy {x a b : Int32} (h : ft x a b = true) : f_Bri_isFromTo x a b X Y = rI 1 X Y := by
  simp only [ft, Bool.and_eq_true, Bool.not_eq_true', decide_eq_false_iff_not] at h
  unfold f_Bri_isFromTo
  rw [if_neg h.1, if_neg h.2]
theorem s_isFTn {x a b : Int32} (h : ft x a b = false) : f_Bri_isFromTo x a b X Y = rI 0 X Y := by
  unfold f_Bri_isFromTo
  by_cases h1 : x < a
  · rw [if_pos h1]
  · rw [if_neg h1]
    by_cases h2 : b < x
    · rw [if_pos h2]
    · simp [ft, h1, h2] at h
theorem s_gateCount (hE : EC n m kd sk X) : f_Gro_gateCount X Y = rI (nI (n - 1)) X Y := by
  unfold f_Gro_gateCount
  rw [hE.1]
  by_cases h : n = 0
  · subst h; rfl
  · have h6 := hE.2.2.1
    rw [if_neg (nI_ne0 (by omega) (by omega))]
    have e : nI n = nI ((n - 1) + 1) := by congr 1; omega
    rw [e, show (1 : Int32) = nI 1 from rfl, pk_sub (by omega)]
    rfl
theorem inN_of {x : Int32} {n : Nat} (h : 0 ≤ x.toInt ∧ x.toInt < n) : ∃ k, k < n ∧ x = nI k := by
  have hr := i_rng x
  refine ⟨x.toInt.toNat, by omega, ?_⟩
  rw [i_eq, nI_toInt (by omega)]
  omega
theorem s_hasPanY (hE : EC n m kd sk X) (hk : k < n) : f_Gro_hasPan (nI k) X Y = rI 1 X Y := by
  unfold f_Gro_hasPan
  have h6 := hE.2.2.1
  rw [hE.1, if_neg (nI_pos (by omega)), if_neg (nI_ge hk (by omega))]
theorem s_hasPanN (hE : EC n m kd sk X) {x : Int32} (h : ¬ (0 ≤ x.toInt ∧ x.toInt < n)) : f_Gro_hasPan x X Y = rI 0 X Y := by
  unfold f_Gro_hasPan
  have h6 := hE.2.2.1
  by_cases h1 : x < 0
  · rw [if_pos h1]
  · rw [if_neg h1, hE.1, if_pos]
    rw [i_lt, i0] at h1
    rw [i_le, nI_toInt (by omega)]
    omega
theorem s_hasGateY (hE : EC n m kd sk X) (hk : k + 1 < n) : f_Gro_hasGate (nI k) X Y = rI 1 X Y := by
  unfold f_Gro_hasGate
  have h6 := hE.2.2.1
  rw [s_gateCount hE, bi_rI, if_neg (nI_pos (by omega)), if_neg (nI_ge (by omega) (by omega))]
theorem s_hasGateN (hE : EC n m kd sk X) {x : Int32} (h : ¬ (0 ≤ x.toInt ∧ x.toInt < (n - 1 : Nat))) : f_Gro_hasGate x X Y = rI 0 X Y := by
  unfold f_Gro_hasGate
  have h6 := hE.2.2.1
  by_cases h1 : x < 0
  · rw [if_pos h1]
  · rw [if_neg h1, s_gateCount hE, bi_rI, if_pos]
    rw [i_lt, i0] at h1
    rw [i_le, nI_toInt (by omega)]
    omega
theorem s_skyOf (hE : EC n m kd sk X) {t : Nat} (ht : t < 2 ^ 31) : f_Gro_skyOf (nI t) X Y = rI (skP m sk t) X Y := by
  unfold f_Gro_skyOf skP
  obtain ⟨h1, h2, h3, h4, h5, h6⟩ := hE
  rw [h2]
  by_cases hm : m = 0
  · subst hm; rfl
  · rw [if_neg (nI_ne0 (by omega) (by omega)), if_pos (nI_pos' ht), if_neg hm, nzb_lit (nI_ne0 (by omega) (by omega)), gd_t, pk_rem ht (by omega) (by omega)]
    have hlt : t % m < m := Nat.mod_lt _ (by omega)
    rw [ixb_nI (by omega) (by decide), gd_t, cl_nI (by omega), h6 _ (by omega)]
theorem s_depthOf (hE : EC n m kd sk X) (hk : k < 6) : f_Gro_depthOf (nI k) X Y = rI (dpP kd k) X Y := by
  unfold f_Gro_depthOf dpP
  rw [ixb_nI hk (by decide), gd_t, cl_nI (by omega), hE.2.2.2.2.1 k hk]
  split <;> rfl
theorem s_brineOf (hk : k < 6) : f_Pan_brineOf p (nI k) (setC X p g) Y = rI (brP g k) (setC X p g) Y := by
  unfold f_Pan_brineOf brP
  rw [ixb_nI hk (by decide), gd_t, cl_nI (by omega), setC_w hk, setC_s hk, lt_e, gd_t, gd_t]
  split <;> rfl
theorem s_crustOf (hk : k < 6) : f_Pan_crustOf p (nI k) (setC X p g) Y = rI (crP g k) (setC X p g) Y := by
  unfold f_Pan_crustOf crP
  rw [ixb_nI hk (by decide), gd_t, s_brineOf hk, bi_rI, cl_nI (by omega), setC_s hk]
theorem s_roomOf (hp : IsP p) (hE : EC n m kd sk X) (hk : k < 6) : f_Pan_roomOf p (nI k) (setC X p g) Y = rI (rmP kd g k) (setC X p g) Y := by
  unfold f_Pan_roomOf rmP
  rw [s_depthOf (hE.set hp) hk, bi_rI, ixb_nI hk (by decide), gd_t, cl_nI (by omega), setC_w hk]
theorem s_canRake (hk : k < 6) : f_Pan_canRake p (nI k) (setC X p g) Y = rI (if rkB g k then 1 else 0) (setC X p g) Y := by
  unfold f_Pan_canRake rkB
  rw [ixb_nI hk (by decide), gd_t, cl_nI (by omega), setC_w hk]
  by_cases h1 : (1 : Int32) < g k
  · rw [if_pos h1]; simp [h1]
  · rw [if_neg h1, s_crustOf hk, bi_rI]
    by_cases h2 : crP g k ≤ 0
    · rw [if_pos h2]; simp [h2]
    · rw [if_neg h2]; simp [h1, h2]
theorem s_isOpen (k : Nat) : f_Pan_isOpen p (nI k) (setC X p g) Y = rI (if hasB (g 12) k then 1 else 0) (setC X p g) Y := by
  unfold f_Pan_isOpen hasB
  rw [setC_3]
  by_cases h : (((g 12) >>> (nI k &&& 31)) &&& 1) = 1
  · rw [if_pos h]; simp [h]
  · rw [if_neg h]; simp [h]
theorem s_drain (hk : k < 6) {x : Int32} (h1 : ¬ x < 1) (h2 : x ≤ g k) : f_Pan_drain p (nI k) x (setC X p g) Y = rI (goP g k x) (setC X p (drP g k x)) Y := by
  have hnz : ¬ g k = 0 := by
    intro e
    rw [e] at h2
    rw [i_lt] at h1; rw [i_le] at h2
    rw [i1] at h1; rw [i0] at h2
    omega
  unfold f_Pan_drain drP goP
  rw [if_neg h1, ixb_nI hk (by decide), gd_t, cl_nI (by omega), setC_w hk, if_pos h2, s_brineOf hk, bi_rI, gd_t, setC_w hk, nzb_lit hnz, gd_t, lt_e, gd_t, wr_t, upC_w _ hk, gd_t, wr_t, setC_s hk, upC_s _ hk, upd_n _ _ (by omega)]
theorem s_drain0 (hk : k < 6) (h2 : ¬ (1 : Int32) ≤ g k) : f_Pan_drain p (nI k) 1 (setC X p g) Y = rI 0 (setC X p g) Y := by
  unfold f_Pan_drain
  rw [if_neg (by decide), ixb_nI hk (by decide), gd_t, cl_nI (by omega), setC_w hk, if_neg h2]
theorem s_fill (hk : k < 6) (x s : Int32) : f_Pan_fill p (nI k) x s (setC X p g) Y = rV (setC X p (flP g k x s)) Y := by
  unfold f_Pan_fill flP
  rw [ixb_nI hk (by decide), gd_t, wr_t, cl_nI (by omega), setC_w hk, upC_w _ hk, gd_t, wr_t, setC_s hk, upC_s _ hk, capC, upd_n _ _ (by omega)]
theorem ft_19 {x : Int32} (h : ft x 1 9 = true) : ¬ x < 1 := by
  intro h2
  simp [ft, h2] at h
theorem s_letOn (hp : IsP p) (hE : EC n m kd sk X) (hk : k + 1 < n) (x : Int32) : f_Pan_letOn p (nI k) x (setC X p g) Y = rI (letR kd g k x).1 (setC X p (letR kd g k x).2) Y := by
  have h6 := hE.2.2.1
  unfold f_Pan_letOn letR
  rw [s_hasGateY (hE.set hp) hk, bi_rI, if_neg n10]
  cases hf : ft x 1 9 with
  | false => rw [s_isFTn hf, bi_rI, if_pos z00, if_pos rfl]
  | true =>
    rw [s_isFTy hf, bi_rI, if_neg n10, if_neg ntf, ixb_nI (by omega) (by decide), gd_t, cl_nI (by omega), setC_w (by omega)]
    by_cases h2 : g k < x
    · rw [if_pos h2, if_neg (by rw [i_le]; rw [i_lt] at h2; omega)]
    · have h2' : x ≤ g k := by rw [i_le]; rw [i_lt] at h2; omega
      rw [if_neg h2, if_pos h2', nI_up, s_roomOf hp hE (by omega), bi_rI]
      by_cases h3 : rmP kd g (k + 1) < x
      · rw [if_pos h3, if_neg (by rw [i_le]; rw [i_lt] at h3; omega)]
      · rw [if_neg h3, if_pos (by rw [i_le]; rw [i_lt] at h3; omega), s_drain (by omega) (ft_19 hf) h2', bi_rI, s_fill (by omega), bv_rV]
        rfl
theorem s_letOnN (hp : IsP p) (hE : EC n m kd sk X) {x1 : Int32} (hk : ¬ (0 ≤ x1.toInt ∧ x1.toInt < (n - 1 : Nat))) (x : Int32) : f_Pan_letOn p x1 x (setC X p g) Y = rI (-1) (setC X p g) Y := by
  unfold f_Pan_letOn
  rw [s_hasGateN (hE.set hp) hk, bi_rI, if_pos z00]
theorem s_takeSea (hp : IsP p) (hE : EC n m kd sk X) (hn : 0 < n) (x : Int32) : f_Pan_takeSea p x (setC X p g) Y = rI (seaR kd g x).1 (setC X p (seaR kd g x).2) Y := by
  have h6 := hE.2.2.1
  unfold f_Pan_takeSea seaR
  rw [show f_Gro_hasPan (0 : Int32) (setC X p g) Y = rI 1 (setC X p g) Y from s_hasPanY (k := 0) (hE.set hp) hn, bi_rI, if_neg n10]
  cases hf : ft x 1 9 with
  | false => rw [s_isFTn hf, bi_rI, if_pos z00, if_pos rfl]
  | true =>
    rw [s_isFTy hf, bi_rI, if_neg n10, if_neg ntf, show f_Pan_roomOf p (0 : Int32) (setC X p g) Y = rI (rmP kd g 0) (setC X p g) Y from s_roomOf (k := 0) hp hE (by omega), bi_rI]
    by_cases h3 : rmP kd g 0 < x
    · rw [if_pos h3, if_neg (by rw [i_le]; rw [i_lt] at h3; omega)]
    · rw [if_neg h3, if_pos (by rw [i_le]; rw [i_lt] at h3; omega), show f_Pan_fill p (0 : Int32) x ((2 : Int32) * x) (setC X p g) Y = _ from s_fill (k := 0) (by omega) x ((2 : Int32) * x), bv_rV, show ixb (0 : Int32) 6 = true from by decide, gd_t, show (0 : Int32).toNatClampNeg = 0 from by decide, setC_w (by omega)]
      rfl
theorem s_takeSeaN (hp : IsP p) (hE : EC n m kd sk X) (hn : n = 0) (x : Int32) : f_Pan_takeSea p x (setC X p g) Y = rI (-1) (setC X p g) Y := by
  unfold f_Pan_takeSea
  rw [s_hasPanN (hE.set hp) (x := 0) (by rw [i0]; omega), bi_rI, if_pos z00]
theorem s_rakeUp (hp : IsP p) (hE : EC n m kd sk X) (hk : k < n) : f_Pan_rakeUp p (nI k) (setC X p g) Y = rI (rakeR g k).1 (setC X p (rakeR g k).2) Y := by
  have h6 := hE.2.2.1
  unfold f_Pan_rakeUp rakeR
  rw [s_hasPanY (hE.set hp) hk, bi_rI, if_neg n10, s_canRake (by omega), bi_rI]
  cases hf : rkB g k with
  | false => rfl
  | true =>
    rw [if_pos rfl, if_neg n10, if_pos rfl, s_crustOf (by omega), bi_rI, ixb_nI (by omega) (by decide), gd_t, wr_t, cl_nI (by omega), setC_s (by omega), upC_s _ (by omega), lh_e, setC_4, cap9C, upC_4, upd_n _ _ (by omega)]
    rfl
theorem s_rakeUpN (hp : IsP p) (hE : EC n m kd sk X) {x : Int32} (hk : ¬ (0 ≤ x.toInt ∧ x.toInt < n)) : f_Pan_rakeUp p x (setC X p g) Y = rI (-1) (setC X p g) Y := by
  unfold f_Pan_rakeUp
  rw [s_hasPanN (hE.set hp) hk, bi_rI, if_pos z00]
end PA
