/-! the law: its loop -/
theorem law_loop {K : KK} {b Ln h0 : Nat} {xs : Nat → Int32} (hb : kB K b h0) (hL : Ln ≤ 3072) : ∀ (n i T : Nat) (X : HI) (Y : HL), i = 6 * T → i ≤ 4000 → Ln < i + 6 * n + 6 → Rel T X Y → JL K b Ln xs h0 18 (lawL i) [] X Y := by
  intro n
  induction n with
  | zero =>
    intro i T X Y hi h4 hn hR
    refine j_iload_n dl_18 rfl rfl rfl ?_
    refine j_aloadF dl_19 rfl rfl rfl ?_
    refine l_slen hb dl_20 rfl ?_
    refine j_bipush (v := 6) dl_21 (by decide) rfl ?_
    refine j_isub dl_23 rfl ?_
    have hlt : nI Ln - 6 < nI i := by
      rw [i_lt, show (6 : Int32) = nI 6 from rfl, pk_sub_toInt (by omega) (by omega), nI_toInt (by omega)]
      omega
    have e := j_icmp_gt (K := K) (own := "BrinePansLaw") (cc := code) (nL := 4) (ret := ret) (R := room_1) (kc := 86) (ns := 966) (PZ := LZ b Ln xs h0) (L := lawL i) (S := []) (X := X) (Y := Y) (t := 1003) (q := 27) (o1 := some o0) (o2 := none) (x := nI i) (y := nI Ln - 6) dl_24 (by decide) rfl (j_iconst (v := 1) dl_1003 (by decide) rfl (l_end hb dl_1004)) j_none
    rw [if_pos hlt] at e
    exact e
  | succ n ih =>
    intro i T X Y hi h4 hn hR
    refine j_iload_n dl_18 rfl rfl rfl ?_
    refine j_aloadF dl_19 rfl rfl rfl ?_
    refine l_slen hb dl_20 rfl ?_
    refine j_bipush (v := 6) dl_21 (by decide) rfl ?_
    refine j_isub dl_23 rfl ?_
    have hsub : (nI Ln - 6).toInt = (Ln : Int) - 6 := by
      rw [show (6 : Int32) = nI 6 from rfl, pk_sub_toInt (by omega) (by omega)]
      rfl
    by_cases hx : Ln < i + 6
    · have hlt : nI Ln - 6 < nI i := by
        rw [i_lt, hsub, nI_toInt (by omega)]
        omega
      have e := j_icmp_gt (K := K) (own := "BrinePansLaw") (cc := code) (nL := 4) (ret := ret) (R := room_1) (kc := 86) (ns := 966) (PZ := LZ b Ln xs h0) (L := lawL i) (S := []) (X := X) (Y := Y) (t := 1003) (q := 27) (o1 := some o0) (o2 := none) (x := nI i) (y := nI Ln - 6) dl_24 (by decide) rfl (j_iconst (v := 1) dl_1003 (by decide) rfl (l_end hb dl_1004)) j_none
      rw [if_pos hlt] at e
      exact e
    · have hi6 : i + 6 ≤ Ln := by omega
      have hlt : ¬ nI Ln - 6 < nI i := by
        rw [i_lt, hsub, nI_toInt (by omega)]
        omega
      have hT : T < 1000 := by omega
      have hk : ∀ X2 Y2, Rel (T + 1) X2 Y2 → JL K b Ln xs h0 997 (lawL i) [] X2 Y2 := by
        intro X2 Y2 h3
        refine j_iinc (d := 6) (L' := lawL (i + 6)) dl_997 rfl (by decide) (by decide) rfl (by unfold lawL; rw [← nI_add i 6]; rfl) rfl ?_
        refine j_goto (q := 18) dl_1000 (by decide) ?_
        exact ih (i + 6) (T + 1) X2 Y2 (by omega) (by omega) (by omega) h3
      have body : JL K b Ln xs h0 27 (lawL i) [] X Y := by
        refine j_aloadF dl_27 rfl rfl rfl ?_
        refine j_iload_n dl_28 rfl rfl rfl ?_
        refine l_sld hb dl_29 (vp_in_nI (by omega) (by omega)) rfl ?_
        rw [cl_nI (by omega)]
        refine j_bipush (v := 31) dl_30 (by decide) rfl ?_
        refine j_iand dl_32 rfl ?_
        obtain ⟨j, hj, ej⟩ := pk_andE (xs i) (m := 31) 5 (by decide)
        rw [ej]
        by_cases h0 : j = 0
        · subst h0
          exact j_tabIn (z := nI 0) (t := 160) dl_33 rfl (by decide) (by decide) (off := 127) (by decide) (by decide) (lc_0 hb hL hi6 hT hR hk)
        by_cases h1 : j = 1
        · subst h1
          exact j_tabIn (z := nI 1) (t := 183) dl_33 rfl (by decide) (by decide) (off := 150) (by decide) (by decide) (lc_1 hb hL hi6 hT hR hk)
        by_cases h2 : j = 2
        · subst h2
          exact j_tabIn (z := nI 2) (t := 196) dl_33 rfl (by decide) (by decide) (off := 163) (by decide) (by decide) (lc_2 hb hL hi6 hT hR hk)
        by_cases h3 : j = 3
        · subst h3
          exact j_tabIn (z := nI 3) (t := 209) dl_33 rfl (by decide) (by decide) (off := 176) (by decide) (by decide) (lc_3 hb hL hi6 hT hR hk)
        by_cases h4 : j = 4
        · subst h4
          exact j_tabIn (z := nI 4) (t := 222) dl_33 rfl (by decide) (by decide) (off := 189) (by decide) (by decide) (lc_4 hb hL hi6 hT hR hk)
        by_cases h5 : j = 5
        · subst h5
          exact j_tabIn (z := nI 5) (t := 245) dl_33 rfl (by decide) (by decide) (off := 212) (by decide) (by decide) (lc_5 hb hL hi6 hT hR hk)
        by_cases h6 : j = 6
        · subst h6
          exact j_tabIn (z := nI 6) (t := 278) dl_33 rfl (by decide) (by decide) (off := 245) (by decide) (by decide) (lc_6 hb hL hi6 hT hR hk)
        by_cases h7 : j = 7
        · subst h7
          exact j_tabIn (z := nI 7) (t := 291) dl_33 rfl (by decide) (by decide) (off := 258) (by decide) (by decide) (lc_7 hb hL hi6 hT hR hk)
        by_cases h8 : j = 8
        · subst h8
          exact j_tabIn (z := nI 8) (t := 314) dl_33 rfl (by decide) (by decide) (off := 281) (by decide) (by decide) (lc_8 hb hL hi6 hT hR hk)
        by_cases h9 : j = 9
        · subst h9
          exact j_tabIn (z := nI 9) (t := 347) dl_33 rfl (by decide) (by decide) (off := 314) (by decide) (by decide) (lc_9 hb hL hi6 hT hR hk)
        by_cases h10 : j = 10
        · subst h10
          exact j_tabIn (z := nI 10) (t := 370) dl_33 rfl (by decide) (by decide) (off := 337) (by decide) (by decide) (lc_10 hb hL hi6 hT hR hk)
        by_cases h11 : j = 11
        · subst h11
          exact j_tabIn (z := nI 11) (t := 393) dl_33 rfl (by decide) (by decide) (off := 360) (by decide) (by decide) (lc_11 hb hL hi6 hT hR hk)
        by_cases h12 : j = 12
        · subst h12
          exact j_tabIn (z := nI 12) (t := 406) dl_33 rfl (by decide) (by decide) (off := 373) (by decide) (by decide) (lc_12 hb hL hi6 hT hR hk)
        by_cases h13 : j = 13
        · subst h13
          exact j_tabIn (z := nI 13) (t := 449) dl_33 rfl (by decide) (by decide) (off := 416) (by decide) (by decide) (lc_13 hb hL hi6 hT hR hk)
        by_cases h14 : j = 14
        · subst h14
          exact j_tabIn (z := nI 14) (t := 472) dl_33 rfl (by decide) (by decide) (off := 439) (by decide) (by decide) (lc_14 hb hL hi6 hT hR hk)
        by_cases h15 : j = 15
        · subst h15
          exact j_tabIn (z := nI 15) (t := 495) dl_33 rfl (by decide) (by decide) (off := 462) (by decide) (by decide) (lc_15 hb hL hi6 hT hR hk)
        by_cases h16 : j = 16
        · subst h16
          exact j_tabIn (z := nI 16) (t := 528) dl_33 rfl (by decide) (by decide) (off := 495) (by decide) (by decide) (lc_16 hb hL hi6 hT hR hk)
        by_cases h17 : j = 17
        · subst h17
          exact j_tabIn (z := nI 17) (t := 561) dl_33 rfl (by decide) (by decide) (off := 528) (by decide) (by decide) (lc_17 hb hL hi6 hT hR hk)
        by_cases h18 : j = 18
        · subst h18
          exact j_tabIn (z := nI 18) (t := 624) dl_33 rfl (by decide) (by decide) (off := 591) (by decide) (by decide) (lc_18 hb hL hi6 hT hR hk)
        by_cases h19 : j = 19
        · subst h19
          exact j_tabIn (z := nI 19) (t := 673) dl_33 rfl (by decide) (by decide) (off := 640) (by decide) (by decide) (lc_19 hb hL hi6 hT hR hk)
        by_cases h20 : j = 20
        · subst h20
          exact j_tabIn (z := nI 20) (t := 716) dl_33 rfl (by decide) (by decide) (off := 683) (by decide) (by decide) (lc_20 hb hL hi6 hT hR hk)
        by_cases h21 : j = 21
        · subst h21
          exact j_tabIn (z := nI 21) (t := 729) dl_33 rfl (by decide) (by decide) (off := 696) (by decide) (by decide) (lc_21 hb hL hi6 hT hR hk)
        by_cases h22 : j = 22
        · subst h22
          exact j_tabIn (z := nI 22) (t := 752) dl_33 rfl (by decide) (by decide) (off := 719) (by decide) (by decide) (lc_22 hb hL hi6 hT hR hk)
        by_cases h23 : j = 23
        · subst h23
          exact j_tabIn (z := nI 23) (t := 795) dl_33 rfl (by decide) (by decide) (off := 762) (by decide) (by decide) (lc_23 hb hL hi6 hT hR hk)
        by_cases h24 : j = 24
        · subst h24
          exact j_tabIn (z := nI 24) (t := 874) dl_33 rfl (by decide) (by decide) (off := 841) (by decide) (by decide) (lc_24 hb hL hi6 hT hR hk)
        by_cases h25 : j = 25
        · subst h25
          exact j_tabIn (z := nI 25) (t := 928) dl_33 rfl (by decide) (by decide) (off := 895) (by decide) (by decide) (lc_25 hb hL hi6 hT hR hk)
        by_cases h26 : j = 26
        · subst h26
          exact j_tabIn (z := nI 26) (t := 951) dl_33 rfl (by decide) (by decide) (off := 918) (by decide) (by decide) (lc_26 hb hL hi6 hT hR hk)
        by_cases h27 : j = 27
        · subst h27
          exact j_tabIn (z := nI 27) (t := 974) dl_33 rfl (by decide) (by decide) (off := 941) (by decide) (by decide) (lc_27 hb hL hi6 hT hR hk)
        exact j_tabOut (t := 997) dl_33 (Or.inr (by rw [nI_toInt (by omega)]; omega)) (by decide) (hk X Y (hR.mono (by omega)))
      have e := j_icmp_gt (K := K) (own := "BrinePansLaw") (cc := code) (nL := 4) (ret := ret) (R := room_1) (kc := 86) (ns := 966) (PZ := LZ b Ln xs h0) (L := lawL i) (S := []) (X := X) (Y := Y) (t := 1003) (q := 27) (o1 := none) (o2 := some o0) (x := nI i) (y := nI Ln - 6) dl_24 (by decide) rfl j_none body
      rw [if_neg hlt] at e
      exact e
