/-! ===== the law's loop ===== -/
section K5s
variable {I I1 : mI} {J J1 : mJ} {L i k : Nat} {xs : Nat → Int32}
theorem bIe {o : am_R} {k : Int32 → am_S → am_R} {x : Int32} {S : am_S} (h : o = some (some (.int x), S)) : am_bI o k = k x S := by rw [h]; rfl
theorem bJe {o : am_R} {k : Int64 → am_S → am_R} {x : Int64} {S : am_S} (h : o = some (some (.long x), S)) : am_bJ o k = k x S := by rw [h]; rfl
theorem FX.sl (h : FX L xs I) : I (2000004 + 1000000) 0 = nI L := by
  rw [h (2000004 + 1000000) (by decide)]
  rfl
theorem FX.sx (h : FX L xs I) (h1 : FX L xs I1) : ∀ k, am_i (mS I1 J1) 2000004 k = I 2000004 k := fun k => by
  rw [mS_i, h 2000004 (by decide), h1 2000004 (by decide)]
theorem s_in (hX : FX L xs I) (hL : L ≤ 3072) (h : i + k < L) : ¬ (nI i + nI k < 0 ∨ Int32.toNatClampNeg (I (2000004 + 1000000) 0) ≤ Int32.toNatClampNeg (nI i + nI k)) := by
  rw [nI_add, hX.sl, nI_clamp (show L < 2 ^ 31 by omega)]
  exact nI_in h (by omega)
theorem s_in0 (hX : FX L xs I) (hL : L ≤ 3072) (h : i < L) : ¬ (nI i < 0 ∨ Int32.toNatClampNeg (I (2000004 + 1000000) 0) ≤ Int32.toNatClampNeg (nI i)) := by
  rw [hX.sl, nI_clamp (show L < 2 ^ 31 by omega)]
  exact nI_in h (by omega)
theorem s_inS (hX : FX L xs I) (hL : L ≤ 3072) (h : i + k < L) : ¬ (nI i + nI k < 0 ∨ Int32.toNatClampNeg (am_i (mS I J) (2000004 + 1000000) 0) ≤ Int32.toNatClampNeg (nI i + nI k)) := by
  rw [mS_i]
  exact s_in hX hL h
theorem s_c : lyC 2000004 = 998 := lx_row (j := 4) (by decide)
theorem s_cS : am_c (mS I J) 2000004 = 998 := by rw [mS_c]; exact s_c
theorem lgs {a : Int64} : lg_cmp a a = 0 := by rw [l_eq]
def uStep (L : Nat) (xs : Nat → Int32) (I : mI) (J : mJ) (i : Nat) : Prop := ∃ I' J', uG L xs I' J' ∧ am_X (am_cal 1000) 274 10 [.ref 2000004, .ref 0, .ref 229, .int (nI i)] [] (mS I J) = am_X (am_cal 1000) 274 1182 [.ref 2000004, .ref 0, .ref 229, .int (nI i)] [] (mS I' J')
theorem uStep_t (h : uG L xs I J) (hX : FX L xs I) (hL : L ≤ 3072) (hi : i + 6 ≤ L) : uStep L xs I J i := by
  have E := e_274_10 (f := am_cal 1000) (b0 := 2000004) (b1 := 0) (b2 := 229) (x3 := nI i) (I := I) (J := J)
  replace E := E.trans (if_pos s_c)
  have hg : ¬ (I (2000004 + 1000000) 0 - nI 6 < nI i) := by
    rw [hX.sl, n_sub (show 6 ≤ L by omega), n_lt (by omega) (by omega)]
    omega
  replace E := E.trans (if_neg hg)
  replace E := E.trans (if_pos s_c)
  replace E := E.trans (if_neg (s_in0 hX hL (by omega)))
  by_cases h0 : (I 2000004 (Int32.toNatClampNeg (nI i))) &&& nI 63 = nI 0
  · have F := E.trans (if_pos h0)
    replace F := F.trans (if_pos s_c)
    replace F := F.trans (if_neg (s_in (k := 1) hX hL (by omega)))
    obtain ⟨a, I1, J1, I2, J2, c1, hX1, c2, hG⟩ := u_0 (x := (I 2000004 (Int32.toNatClampNeg (nI i + (nI 1))))) h
    replace F := F.trans (bIe c1)
    have ex := FX.sx (J1 := J1) hX hX1
    replace F := F.trans (if_pos s_cS)
    replace F := F.trans (if_neg (s_inS (k := 1) hX1 hL (by omega)))
    simp only [ex] at F
    replace F := F.trans (bIe c2)
    replace F := F.trans (if_pos rfl)
    exact ⟨I2, J2, hG, F⟩
  replace E := E.trans (if_neg h0)
  by_cases h1 : (I 2000004 (Int32.toNatClampNeg (nI i))) &&& nI 63 = nI 1
  · have F := E.trans (if_pos h1)
    obtain ⟨a, I1, J1, I2, J2, c1, hX1, c2, hG⟩ := u_1  h
    replace F := F.trans (bIe c1)
    replace F := F.trans (bIe c2)
    replace F := F.trans (if_pos rfl)
    exact ⟨I2, J2, hG, F⟩
  replace E := E.trans (if_neg h1)
  by_cases h2 : (I 2000004 (Int32.toNatClampNeg (nI i))) &&& nI 63 = nI 2
  · have F := E.trans (if_pos h2)
    replace F := F.trans (if_pos s_c)
    replace F := F.trans (if_neg (s_in (k := 1) hX hL (by omega)))
    replace F := F.trans (if_pos s_c)
    replace F := F.trans (if_neg (s_in (k := 2) hX hL (by omega)))
    replace F := F.trans (if_pos s_c)
    replace F := F.trans (if_neg (s_in (k := 3) hX hL (by omega)))
    replace F := F.trans (if_pos s_c)
    replace F := F.trans (if_neg (s_in (k := 4) hX hL (by omega)))
    replace F := F.trans (if_pos s_c)
    replace F := F.trans (if_neg (s_in (k := 5) hX hL (by omega)))
    by_cases hz : I 2000004 (Int32.toNatClampNeg (nI i + nI 5)) = 0
    · replace F := F.trans (if_pos hz)
      replace F := F.trans e_274_76
      obtain ⟨a, I1, J1, I2, J2, c1, hX1, c2, hG⟩ := u_2 (v := nI 0) (x := I 2000004 (Int32.toNatClampNeg (nI i + nI 1))) (y := I 2000004 (Int32.toNatClampNeg (nI i + nI 2))) (z := I 2000004 (Int32.toNatClampNeg (nI i + nI 3))) (u := I 2000004 (Int32.toNatClampNeg (nI i + nI 4))) h (Or.inl (by decide))
      have ex := FX.sx (J1 := J1) hX hX1
      replace F := F.trans (bIe c1)
      replace F := F.trans (if_pos s_cS)
      replace F := F.trans (if_neg (s_inS (k := 1) hX1 hL (by omega)))
      replace F := F.trans (if_pos s_cS)
      replace F := F.trans (if_neg (s_inS (k := 2) hX1 hL (by omega)))
      replace F := F.trans (if_pos s_cS)
      replace F := F.trans (if_neg (s_inS (k := 3) hX1 hL (by omega)))
      replace F := F.trans (if_pos s_cS)
      replace F := F.trans (if_neg (s_inS (k := 4) hX1 hL (by omega)))
      replace F := F.trans (if_pos s_cS)
      replace F := F.trans (if_neg (s_inS (k := 5) hX1 hL (by omega)))
      simp only [ex] at F
      replace F := F.trans (if_pos hz)
      replace F := F.trans (bIe c2)
      replace F := F.trans (if_pos rfl)
      exact ⟨I2, J2, hG, F⟩
    · replace F := F.trans (if_neg hz)
      replace F := F.trans e_274_76
      obtain ⟨a, I1, J1, I2, J2, c1, hX1, c2, hG⟩ := u_2 (v := nI 1) (x := I 2000004 (Int32.toNatClampNeg (nI i + nI 1))) (y := I 2000004 (Int32.toNatClampNeg (nI i + nI 2))) (z := I 2000004 (Int32.toNatClampNeg (nI i + nI 3))) (u := I 2000004 (Int32.toNatClampNeg (nI i + nI 4))) h (Or.inr (by decide))
      have ex := FX.sx (J1 := J1) hX hX1
      replace F := F.trans (bIe c1)
      replace F := F.trans (if_pos s_cS)
      replace F := F.trans (if_neg (s_inS (k := 1) hX1 hL (by omega)))
      replace F := F.trans (if_pos s_cS)
      replace F := F.trans (if_neg (s_inS (k := 2) hX1 hL (by omega)))
      replace F := F.trans (if_pos s_cS)
      replace F := F.trans (if_neg (s_inS (k := 3) hX1 hL (by omega)))
      replace F := F.trans (if_pos s_cS)
      replace F := F.trans (if_neg (s_inS (k := 4) hX1 hL (by omega)))
      replace F := F.trans (if_pos s_cS)
      replace F := F.trans (if_neg (s_inS (k := 5) hX1 hL (by omega)))
      simp only [ex] at F
      replace F := F.trans (if_neg hz)
      replace F := F.trans (bIe c2)
      replace F := F.trans (if_pos rfl)
      exact ⟨I2, J2, hG, F⟩
  replace E := E.trans (if_neg h2)
  by_cases h3 : (I 2000004 (Int32.toNatClampNeg (nI i))) &&& nI 63 = nI 3
  · have F := E.trans (if_pos h3)
    replace F := F.trans (if_pos s_c)
    replace F := F.trans (if_neg (s_in (k := 1) hX hL (by omega)))
    obtain ⟨a, I1, J1, I2, J2, c1, hX1, c2, hG⟩ := u_3 (x := (I 2000004 (Int32.toNatClampNeg (nI i + (nI 1))))) h
    replace F := F.trans (bIe c1)
    have ex := FX.sx (J1 := J1) hX hX1
    replace F := F.trans (if_pos s_cS)
    replace F := F.trans (if_neg (s_inS (k := 1) hX1 hL (by omega)))
    simp only [ex] at F
    replace F := F.trans (bIe c2)
    replace F := F.trans (if_pos rfl)
    exact ⟨I2, J2, hG, F⟩
  replace E := E.trans (if_neg h3)
  by_cases h4 : (I 2000004 (Int32.toNatClampNeg (nI i))) &&& nI 63 = nI 4
  · have F := E.trans (if_pos h4)
    replace F := F.trans (if_pos s_c)
    replace F := F.trans (if_neg (s_in (k := 1) hX hL (by omega)))
    replace F := F.trans (if_pos s_c)
    replace F := F.trans (if_neg (s_in (k := 2) hX hL (by omega)))
    obtain ⟨a, I1, J1, I2, J2, c1, hX1, c2, hG⟩ := u_4 (x := (I 2000004 (Int32.toNatClampNeg (nI i + (nI 1))))) (y := (I 2000004 (Int32.toNatClampNeg (nI i + (nI 2))))) h
    replace F := F.trans (bIe c1)
    have ex := FX.sx (J1 := J1) hX hX1
    replace F := F.trans (if_pos s_cS)
    replace F := F.trans (if_neg (s_inS (k := 1) hX1 hL (by omega)))
    replace F := F.trans (if_pos s_cS)
    replace F := F.trans (if_neg (s_inS (k := 2) hX1 hL (by omega)))
    simp only [ex] at F
    replace F := F.trans (bIe c2)
    replace F := F.trans (if_pos rfl)
    exact ⟨I2, J2, hG, F⟩
  replace E := E.trans (if_neg h4)
  by_cases h5 : (I 2000004 (Int32.toNatClampNeg (nI i))) &&& nI 63 = nI 5
  · have F := E.trans (if_pos h5)
    replace F := F.trans (if_pos s_c)
    replace F := F.trans (if_neg (s_in (k := 1) hX hL (by omega)))
    obtain ⟨a, I1, J1, I2, J2, c1, hX1, c2, hG⟩ := u_5 (x := (I 2000004 (Int32.toNatClampNeg (nI i + (nI 1))))) h
    replace F := F.trans (bIe c1)
    have ex := FX.sx (J1 := J1) hX hX1
    replace F := F.trans (if_pos s_cS)
    replace F := F.trans (if_neg (s_inS (k := 1) hX1 hL (by omega)))
    simp only [ex] at F
    replace F := F.trans (bIe c2)
    replace F := F.trans (if_pos rfl)
    exact ⟨I2, J2, hG, F⟩
  replace E := E.trans (if_neg h5)
  by_cases h6 : (I 2000004 (Int32.toNatClampNeg (nI i))) &&& nI 63 = nI 6
  · have F := E.trans (if_pos h6)
    replace F := F.trans (if_pos s_c)
    replace F := F.trans (if_neg (s_in (k := 1) hX hL (by omega)))
    replace F := F.trans (if_pos s_c)
    replace F := F.trans (if_neg (s_in (k := 2) hX hL (by omega)))
    obtain ⟨a, I1, J1, I2, J2, c1, hX1, c2, hG⟩ := u_6 (x := (I 2000004 (Int32.toNatClampNeg (nI i + (nI 1))))) (y := (I 2000004 (Int32.toNatClampNeg (nI i + (nI 2))))) h
    replace F := F.trans (bIe c1)
    have ex := FX.sx (J1 := J1) hX hX1
    replace F := F.trans (if_pos s_cS)
    replace F := F.trans (if_neg (s_inS (k := 1) hX1 hL (by omega)))
    replace F := F.trans (if_pos s_cS)
    replace F := F.trans (if_neg (s_inS (k := 2) hX1 hL (by omega)))
    simp only [ex] at F
    replace F := F.trans (bIe c2)
    replace F := F.trans (if_pos rfl)
    exact ⟨I2, J2, hG, F⟩
  replace E := E.trans (if_neg h6)
  by_cases h7 : (I 2000004 (Int32.toNatClampNeg (nI i))) &&& nI 63 = nI 7
  · have F := E.trans (if_pos h7)
    replace F := F.trans (if_pos s_c)
    replace F := F.trans (if_neg (s_in (k := 1) hX hL (by omega)))
    obtain ⟨a, I1, J1, I2, J2, c1, hX1, c2, hG⟩ := u_7 (x := (I 2000004 (Int32.toNatClampNeg (nI i + (nI 1))))) h
    replace F := F.trans (bIe c1)
    have ex := FX.sx (J1 := J1) hX hX1
    replace F := F.trans (if_pos s_cS)
    replace F := F.trans (if_neg (s_inS (k := 1) hX1 hL (by omega)))
    simp only [ex] at F
    replace F := F.trans (bIe c2)
    replace F := F.trans (if_pos rfl)
    exact ⟨I2, J2, hG, F⟩
  replace E := E.trans (if_neg h7)
  by_cases h8 : (I 2000004 (Int32.toNatClampNeg (nI i))) &&& nI 63 = nI 8
  · have F := E.trans (if_pos h8)
    replace F := F.trans (if_pos s_c)
    replace F := F.trans (if_neg (s_in (k := 1) hX hL (by omega)))
    replace F := F.trans (if_pos s_c)
    replace F := F.trans (if_neg (s_in (k := 2) hX hL (by omega)))
    obtain ⟨a, I1, J1, I2, J2, c1, hX1, c2, hG⟩ := u_8 (x := (I 2000004 (Int32.toNatClampNeg (nI i + (nI 1))))) (y := (I 2000004 (Int32.toNatClampNeg (nI i + (nI 2))))) h
    replace F := F.trans (bIe c1)
    have ex := FX.sx (J1 := J1) hX hX1
    replace F := F.trans (if_pos s_cS)
    replace F := F.trans (if_neg (s_inS (k := 1) hX1 hL (by omega)))
    replace F := F.trans (if_pos s_cS)
    replace F := F.trans (if_neg (s_inS (k := 2) hX1 hL (by omega)))
    simp only [ex] at F
    replace F := F.trans (bIe c2)
    replace F := F.trans (if_pos rfl)
    exact ⟨I2, J2, hG, F⟩
  replace E := E.trans (if_neg h8)
  by_cases h9 : (I 2000004 (Int32.toNatClampNeg (nI i))) &&& nI 63 = nI 9
  · have F := E.trans (if_pos h9)
    replace F := F.trans (if_pos s_c)
    replace F := F.trans (if_neg (s_in (k := 1) hX hL (by omega)))
    replace F := F.trans (if_pos s_c)
    replace F := F.trans (if_neg (s_in (k := 2) hX hL (by omega)))
    replace F := F.trans (if_pos s_c)
    replace F := F.trans (if_neg (s_in (k := 3) hX hL (by omega)))
    obtain ⟨a, I1, J1, I2, J2, c1, hX1, c2, hG⟩ := u_9 (y := (((Int32.toInt64 (I 2000004 (Int32.toNatClampNeg (nI i + (nI 1))))) <<< (Int32.toInt64 (nI 32) &&& 63)) ||| ((Int32.toInt64 (I 2000004 (Int32.toNatClampNeg (nI i + (nI 2))))) &&& (lN 4294967295)))) (x := (I 2000004 (Int32.toNatClampNeg (nI i + (nI 3))))) h
    replace F := F.trans (bIe c1)
    have ex := FX.sx (J1 := J1) hX hX1
    replace F := F.trans (if_pos s_cS)
    replace F := F.trans (if_neg (s_inS (k := 1) hX1 hL (by omega)))
    replace F := F.trans (if_pos s_cS)
    replace F := F.trans (if_neg (s_inS (k := 2) hX1 hL (by omega)))
    replace F := F.trans (if_pos s_cS)
    replace F := F.trans (if_neg (s_inS (k := 3) hX1 hL (by omega)))
    simp only [ex] at F
    replace F := F.trans (bIe c2)
    replace F := F.trans (if_pos rfl)
    exact ⟨I2, J2, hG, F⟩
  replace E := E.trans (if_neg h9)
  by_cases h10 : (I 2000004 (Int32.toNatClampNeg (nI i))) &&& nI 63 = nI 10
  · have F := E.trans (if_pos h10)
    obtain ⟨a, I1, J1, I2, J2, c1, hX1, c2, hG⟩ := u_10  h
    replace F := F.trans (bIe c1)
    replace F := F.trans (bIe c2)
    replace F := F.trans (if_pos rfl)
    exact ⟨I2, J2, hG, F⟩
  replace E := E.trans (if_neg h10)
  by_cases h11 : (I 2000004 (Int32.toNatClampNeg (nI i))) &&& nI 63 = nI 11
  · have F := E.trans (if_pos h11)
    replace F := F.trans (if_pos s_c)
    replace F := F.trans (if_neg (s_in (k := 1) hX hL (by omega)))
    replace F := F.trans (if_pos s_c)
    replace F := F.trans (if_neg (s_in (k := 2) hX hL (by omega)))
    obtain ⟨a, I1, J1, I2, J2, c1, hX1, c2, hG⟩ := u_11 (x := (I 2000004 (Int32.toNatClampNeg (nI i + (nI 1))))) (y := (I 2000004 (Int32.toNatClampNeg (nI i + (nI 2))))) h
    replace F := F.trans (bIe c1)
    have ex := FX.sx (J1 := J1) hX hX1
    replace F := F.trans (if_pos s_cS)
    replace F := F.trans (if_neg (s_inS (k := 1) hX1 hL (by omega)))
    replace F := F.trans (if_pos s_cS)
    replace F := F.trans (if_neg (s_inS (k := 2) hX1 hL (by omega)))
    simp only [ex] at F
    replace F := F.trans (bIe c2)
    replace F := F.trans (if_pos rfl)
    exact ⟨I2, J2, hG, F⟩
  replace E := E.trans (if_neg h11)
  by_cases h12 : (I 2000004 (Int32.toNatClampNeg (nI i))) &&& nI 63 = nI 12
  · have F := E.trans (if_pos h12)
    replace F := F.trans (if_pos s_c)
    replace F := F.trans (if_neg (s_in (k := 1) hX hL (by omega)))
    replace F := F.trans (if_pos s_c)
    replace F := F.trans (if_neg (s_in (k := 2) hX hL (by omega)))
    replace F := F.trans (if_pos s_c)
    replace F := F.trans (if_neg (s_in (k := 3) hX hL (by omega)))
    obtain ⟨a, I1, J1, I2, J2, c1, hX1, c2, hG⟩ := u_12 (x := (I 2000004 (Int32.toNatClampNeg (nI i + (nI 1))))) (y := (I 2000004 (Int32.toNatClampNeg (nI i + (nI 2))))) (z := (I 2000004 (Int32.toNatClampNeg (nI i + (nI 3))))) h
    replace F := F.trans (bIe c1)
    have ex := FX.sx (J1 := J1) hX hX1
    replace F := F.trans (if_pos s_cS)
    replace F := F.trans (if_neg (s_inS (k := 1) hX1 hL (by omega)))
    replace F := F.trans (if_pos s_cS)
    replace F := F.trans (if_neg (s_inS (k := 2) hX1 hL (by omega)))
    replace F := F.trans (if_pos s_cS)
    replace F := F.trans (if_neg (s_inS (k := 3) hX1 hL (by omega)))
    simp only [ex] at F
    replace F := F.trans (bIe c2)
    replace F := F.trans (if_pos rfl)
    exact ⟨I2, J2, hG, F⟩
  replace E := E.trans (if_neg h12)
  by_cases h13 : (I 2000004 (Int32.toNatClampNeg (nI i))) &&& nI 63 = nI 13
  · have F := E.trans (if_pos h13)
    replace F := F.trans (if_pos s_c)
    replace F := F.trans (if_neg (s_in (k := 1) hX hL (by omega)))
    replace F := F.trans (if_pos s_c)
    replace F := F.trans (if_neg (s_in (k := 2) hX hL (by omega)))
    obtain ⟨a, I1, J1, I2, J2, c1, hX1, c2, hG⟩ := u_13 (x := (I 2000004 (Int32.toNatClampNeg (nI i + (nI 1))))) (y := (I 2000004 (Int32.toNatClampNeg (nI i + (nI 2))))) h
    replace F := F.trans (bIe c1)
    have ex := FX.sx (J1 := J1) hX hX1
    replace F := F.trans (if_pos s_cS)
    replace F := F.trans (if_neg (s_inS (k := 1) hX1 hL (by omega)))
    replace F := F.trans (if_pos s_cS)
    replace F := F.trans (if_neg (s_inS (k := 2) hX1 hL (by omega)))
    simp only [ex] at F
    replace F := F.trans (bIe c2)
    replace F := F.trans (if_pos rfl)
    exact ⟨I2, J2, hG, F⟩
  replace E := E.trans (if_neg h13)
  by_cases h14 : (I 2000004 (Int32.toNatClampNeg (nI i))) &&& nI 63 = nI 14
  · have F := E.trans (if_pos h14)
    replace F := F.trans (if_pos s_c)
    replace F := F.trans (if_neg (s_in (k := 1) hX hL (by omega)))
    replace F := F.trans (if_pos s_c)
    replace F := F.trans (if_neg (s_in (k := 2) hX hL (by omega)))
    replace F := F.trans (if_pos s_c)
    replace F := F.trans (if_neg (s_in (k := 3) hX hL (by omega)))
    obtain ⟨a, I1, J1, I2, J2, c1, hX1, c2, hG⟩ := u_14 (x := (I 2000004 (Int32.toNatClampNeg (nI i + (nI 1))))) (y := (I 2000004 (Int32.toNatClampNeg (nI i + (nI 2))))) (z := (I 2000004 (Int32.toNatClampNeg (nI i + (nI 3))))) h
    replace F := F.trans (bJe c1)
    have ex := FX.sx (J1 := J1) hX hX1
    replace F := F.trans (if_pos s_cS)
    replace F := F.trans (if_neg (s_inS (k := 1) hX1 hL (by omega)))
    replace F := F.trans (if_pos s_cS)
    replace F := F.trans (if_neg (s_inS (k := 2) hX1 hL (by omega)))
    replace F := F.trans (if_pos s_cS)
    replace F := F.trans (if_neg (s_inS (k := 3) hX1 hL (by omega)))
    simp only [ex] at F
    replace F := F.trans (bJe c2)
    replace F := F.trans (if_pos lgs)
    exact ⟨I2, J2, hG, F⟩
  replace E := E.trans (if_neg h14)
  by_cases h15 : (I 2000004 (Int32.toNatClampNeg (nI i))) &&& nI 63 = nI 15
  · have F := E.trans (if_pos h15)
    replace F := F.trans (if_pos s_c)
    replace F := F.trans (if_neg (s_in (k := 1) hX hL (by omega)))
    replace F := F.trans (if_pos s_c)
    replace F := F.trans (if_neg (s_in (k := 2) hX hL (by omega)))
    replace F := F.trans (if_pos s_c)
    replace F := F.trans (if_neg (s_in (k := 3) hX hL (by omega)))
    obtain ⟨a, I1, J1, I2, J2, c1, hX1, c2, hG⟩ := u_15 (x := (I 2000004 (Int32.toNatClampNeg (nI i + (nI 1))))) (y := (I 2000004 (Int32.toNatClampNeg (nI i + (nI 2))))) (z := (I 2000004 (Int32.toNatClampNeg (nI i + (nI 3))))) h
    replace F := F.trans (bJe c1)
    have ex := FX.sx (J1 := J1) hX hX1
    replace F := F.trans (if_pos s_cS)
    replace F := F.trans (if_neg (s_inS (k := 1) hX1 hL (by omega)))
    replace F := F.trans (if_pos s_cS)
    replace F := F.trans (if_neg (s_inS (k := 2) hX1 hL (by omega)))
    replace F := F.trans (if_pos s_cS)
    replace F := F.trans (if_neg (s_inS (k := 3) hX1 hL (by omega)))
    simp only [ex] at F
    replace F := F.trans (bJe c2)
    replace F := F.trans (if_pos lgs)
    exact ⟨I2, J2, hG, F⟩
  replace E := E.trans (if_neg h15)
  by_cases h16 : (I 2000004 (Int32.toNatClampNeg (nI i))) &&& nI 63 = nI 16
  · have F := E.trans (if_pos h16)
    replace F := F.trans (if_pos s_c)
    replace F := F.trans (if_neg (s_in (k := 1) hX hL (by omega)))
    obtain ⟨a, I1, J1, I2, J2, c1, hX1, c2, hG⟩ := u_16 (x := (I 2000004 (Int32.toNatClampNeg (nI i + (nI 1))))) h
    replace F := F.trans (bIe c1)
    have ex := FX.sx (J1 := J1) hX hX1
    replace F := F.trans (if_pos s_cS)
    replace F := F.trans (if_neg (s_inS (k := 1) hX1 hL (by omega)))
    simp only [ex] at F
    replace F := F.trans (bIe c2)
    replace F := F.trans (if_pos rfl)
    exact ⟨I2, J2, hG, F⟩
  replace E := E.trans (if_neg h16)
  by_cases h17 : (I 2000004 (Int32.toNatClampNeg (nI i))) &&& nI 63 = nI 17
  · have F := E.trans (if_pos h17)
    replace F := F.trans (if_pos s_c)
    replace F := F.trans (if_neg (s_in (k := 1) hX hL (by omega)))
    replace F := F.trans (if_pos s_c)
    replace F := F.trans (if_neg (s_in (k := 2) hX hL (by omega)))
    obtain ⟨a, I1, J1, I2, J2, c1, hX1, c2, hG⟩ := u_17 (x := (I 2000004 (Int32.toNatClampNeg (nI i + (nI 1))))) (y := (I 2000004 (Int32.toNatClampNeg (nI i + (nI 2))))) h
    replace F := F.trans (bIe c1)
    have ex := FX.sx (J1 := J1) hX hX1
    replace F := F.trans (if_pos s_cS)
    replace F := F.trans (if_neg (s_inS (k := 1) hX1 hL (by omega)))
    replace F := F.trans (if_pos s_cS)
    replace F := F.trans (if_neg (s_inS (k := 2) hX1 hL (by omega)))
    simp only [ex] at F
    replace F := F.trans (bIe c2)
    replace F := F.trans (if_pos rfl)
    exact ⟨I2, J2, hG, F⟩
  replace E := E.trans (if_neg h17)
  by_cases h18 : (I 2000004 (Int32.toNatClampNeg (nI i))) &&& nI 63 = nI 18
  · have F := E.trans (if_pos h18)
    replace F := F.trans (if_pos s_c)
    replace F := F.trans (if_neg (s_in (k := 1) hX hL (by omega)))
    obtain ⟨a, I1, J1, I2, J2, c1, hX1, c2, hG⟩ := u_18 (y := (I 2000004 (Int32.toNatClampNeg (nI i + (nI 1))))) h
    replace F := F.trans (bIe c1)
    have ex := FX.sx (J1 := J1) hX hX1
    replace F := F.trans (if_pos s_cS)
    replace F := F.trans (if_neg (s_inS (k := 1) hX1 hL (by omega)))
    simp only [ex] at F
    replace F := F.trans (bIe c2)
    replace F := F.trans (if_pos rfl)
    exact ⟨I2, J2, hG, F⟩
  replace E := E.trans (if_neg h18)
  by_cases h19 : (I 2000004 (Int32.toNatClampNeg (nI i))) &&& nI 63 = nI 19
  · have F := E.trans (if_pos h19)
    replace F := F.trans (if_pos s_c)
    replace F := F.trans (if_neg (s_in (k := 1) hX hL (by omega)))
    replace F := F.trans (if_pos s_c)
    replace F := F.trans (if_neg (s_in (k := 2) hX hL (by omega)))
    obtain ⟨a, I1, J1, I2, J2, c1, hX1, c2, hG⟩ := u_19 (x := (I 2000004 (Int32.toNatClampNeg (nI i + (nI 1))))) (y := (I 2000004 (Int32.toNatClampNeg (nI i + (nI 2))))) h
    replace F := F.trans (bIe c1)
    have ex := FX.sx (J1 := J1) hX hX1
    replace F := F.trans (if_pos s_cS)
    replace F := F.trans (if_neg (s_inS (k := 1) hX1 hL (by omega)))
    replace F := F.trans (if_pos s_cS)
    replace F := F.trans (if_neg (s_inS (k := 2) hX1 hL (by omega)))
    simp only [ex] at F
    replace F := F.trans (bIe c2)
    replace F := F.trans (if_pos rfl)
    exact ⟨I2, J2, hG, F⟩
  replace E := E.trans (if_neg h19)
  by_cases h20 : (I 2000004 (Int32.toNatClampNeg (nI i))) &&& nI 63 = nI 20
  · have F := E.trans (if_pos h20)
    replace F := F.trans (if_pos s_c)
    replace F := F.trans (if_neg (s_in (k := 1) hX hL (by omega)))
    obtain ⟨a, I1, J1, I2, J2, c1, hX1, c2, hG⟩ := u_20 (x := (I 2000004 (Int32.toNatClampNeg (nI i + (nI 1))))) h
    replace F := F.trans (bIe c1)
    have ex := FX.sx (J1 := J1) hX hX1
    replace F := F.trans (if_pos s_cS)
    replace F := F.trans (if_neg (s_inS (k := 1) hX1 hL (by omega)))
    simp only [ex] at F
    replace F := F.trans (bIe c2)
    replace F := F.trans (if_pos rfl)
    exact ⟨I2, J2, hG, F⟩
  replace E := E.trans (if_neg h20)
  by_cases h21 : (I 2000004 (Int32.toNatClampNeg (nI i))) &&& nI 63 = nI 21
  · have F := E.trans (if_pos h21)
    replace F := F.trans (if_pos s_c)
    replace F := F.trans (if_neg (s_in (k := 1) hX hL (by omega)))
    replace F := F.trans (if_pos s_c)
    replace F := F.trans (if_neg (s_in (k := 2) hX hL (by omega)))
    obtain ⟨a, I1, J1, I2, J2, c1, hX1, c2, hG⟩ := u_21 (x := (I 2000004 (Int32.toNatClampNeg (nI i + (nI 1))))) (y := (I 2000004 (Int32.toNatClampNeg (nI i + (nI 2))))) h
    replace F := F.trans (bIe c1)
    have ex := FX.sx (J1 := J1) hX hX1
    replace F := F.trans (if_pos s_cS)
    replace F := F.trans (if_neg (s_inS (k := 1) hX1 hL (by omega)))
    replace F := F.trans (if_pos s_cS)
    replace F := F.trans (if_neg (s_inS (k := 2) hX1 hL (by omega)))
    simp only [ex] at F
    replace F := F.trans (bIe c2)
    replace F := F.trans (if_pos rfl)
    exact ⟨I2, J2, hG, F⟩
  replace E := E.trans (if_neg h21)
  by_cases h22 : (I 2000004 (Int32.toNatClampNeg (nI i))) &&& nI 63 = nI 22
  · have F := E.trans (if_pos h22)
    replace F := F.trans (if_pos s_c)
    replace F := F.trans (if_neg (s_in (k := 1) hX hL (by omega)))
    obtain ⟨a, I1, J1, I2, J2, c1, hX1, c2, hG⟩ := u_22 (x := (I 2000004 (Int32.toNatClampNeg (nI i + (nI 1))))) h
    replace F := F.trans (bIe c1)
    have ex := FX.sx (J1 := J1) hX hX1
    replace F := F.trans (if_pos s_cS)
    replace F := F.trans (if_neg (s_inS (k := 1) hX1 hL (by omega)))
    simp only [ex] at F
    replace F := F.trans (bIe c2)
    replace F := F.trans (if_pos rfl)
    exact ⟨I2, J2, hG, F⟩
  replace E := E.trans (if_neg h22)
  by_cases h23 : (I 2000004 (Int32.toNatClampNeg (nI i))) &&& nI 63 = nI 23
  · have F := E.trans (if_pos h23)
    replace F := F.trans (if_pos s_c)
    replace F := F.trans (if_neg (s_in (k := 1) hX hL (by omega)))
    replace F := F.trans (if_pos s_c)
    replace F := F.trans (if_neg (s_in (k := 2) hX hL (by omega)))
    obtain ⟨a, I1, J1, I2, J2, c1, hX1, c2, hG⟩ := u_23 (x := (I 2000004 (Int32.toNatClampNeg (nI i + (nI 1))))) (y := (I 2000004 (Int32.toNatClampNeg (nI i + (nI 2))))) h
    replace F := F.trans (bIe c1)
    have ex := FX.sx (J1 := J1) hX hX1
    replace F := F.trans (if_pos s_cS)
    replace F := F.trans (if_neg (s_inS (k := 1) hX1 hL (by omega)))
    replace F := F.trans (if_pos s_cS)
    replace F := F.trans (if_neg (s_inS (k := 2) hX1 hL (by omega)))
    simp only [ex] at F
    replace F := F.trans (bIe c2)
    replace F := F.trans (if_pos rfl)
    exact ⟨I2, J2, hG, F⟩
  replace E := E.trans (if_neg h23)
  by_cases h24 : (I 2000004 (Int32.toNatClampNeg (nI i))) &&& nI 63 = nI 24
  · have F := E.trans (if_pos h24)
    replace F := F.trans (if_pos s_c)
    replace F := F.trans (if_neg (s_in (k := 1) hX hL (by omega)))
    obtain ⟨a, I1, J1, I2, J2, c1, hX1, c2, hG⟩ := u_24 (x := (I 2000004 (Int32.toNatClampNeg (nI i + (nI 1))))) h
    replace F := F.trans (bIe c1)
    have ex := FX.sx (J1 := J1) hX hX1
    replace F := F.trans (if_pos s_cS)
    replace F := F.trans (if_neg (s_inS (k := 1) hX1 hL (by omega)))
    simp only [ex] at F
    replace F := F.trans (bIe c2)
    replace F := F.trans (if_pos rfl)
    exact ⟨I2, J2, hG, F⟩
  replace E := E.trans (if_neg h24)
  by_cases h25 : (I 2000004 (Int32.toNatClampNeg (nI i))) &&& nI 63 = nI 25
  · have F := E.trans (if_pos h25)
    replace F := F.trans (if_pos s_c)
    replace F := F.trans (if_neg (s_in (k := 1) hX hL (by omega)))
    replace F := F.trans (if_pos s_c)
    replace F := F.trans (if_neg (s_in (k := 2) hX hL (by omega)))
    obtain ⟨a, I1, J1, I2, J2, c1, hX1, c2, hG⟩ := u_25 (x := (I 2000004 (Int32.toNatClampNeg (nI i + (nI 1))))) (y := (I 2000004 (Int32.toNatClampNeg (nI i + (nI 2))))) h
    replace F := F.trans (bJe c1)
    have ex := FX.sx (J1 := J1) hX hX1
    replace F := F.trans (if_pos s_cS)
    replace F := F.trans (if_neg (s_inS (k := 1) hX1 hL (by omega)))
    replace F := F.trans (if_pos s_cS)
    replace F := F.trans (if_neg (s_inS (k := 2) hX1 hL (by omega)))
    simp only [ex] at F
    replace F := F.trans (bJe c2)
    replace F := F.trans (if_pos lgs)
    exact ⟨I2, J2, hG, F⟩
  replace E := E.trans (if_neg h25)
  by_cases h26 : (I 2000004 (Int32.toNatClampNeg (nI i))) &&& nI 63 = nI 26
  · have F := E.trans (if_pos h26)
    replace F := F.trans (if_pos s_c)
    replace F := F.trans (if_neg (s_in (k := 1) hX hL (by omega)))
    replace F := F.trans (if_pos s_c)
    replace F := F.trans (if_neg (s_in (k := 2) hX hL (by omega)))
    replace F := F.trans (if_pos s_c)
    replace F := F.trans (if_neg (s_in (k := 3) hX hL (by omega)))
    obtain ⟨a, I1, J1, I2, J2, c1, hX1, c2, hG⟩ := u_26 (x := (I 2000004 (Int32.toNatClampNeg (nI i + (nI 1))))) (y := (I 2000004 (Int32.toNatClampNeg (nI i + (nI 2))))) (z := (I 2000004 (Int32.toNatClampNeg (nI i + (nI 3))))) h
    replace F := F.trans (bJe c1)
    have ex := FX.sx (J1 := J1) hX hX1
    replace F := F.trans (if_pos s_cS)
    replace F := F.trans (if_neg (s_inS (k := 1) hX1 hL (by omega)))
    replace F := F.trans (if_pos s_cS)
    replace F := F.trans (if_neg (s_inS (k := 2) hX1 hL (by omega)))
    replace F := F.trans (if_pos s_cS)
    replace F := F.trans (if_neg (s_inS (k := 3) hX1 hL (by omega)))
    simp only [ex] at F
    replace F := F.trans (bJe c2)
    replace F := F.trans (if_pos lgs)
    exact ⟨I2, J2, hG, F⟩
  replace E := E.trans (if_neg h26)
  by_cases h27 : (I 2000004 (Int32.toNatClampNeg (nI i))) &&& nI 63 = nI 27
  · have F := E.trans (if_pos h27)
    replace F := F.trans (if_pos s_c)
    replace F := F.trans (if_neg (s_in (k := 1) hX hL (by omega)))
    obtain ⟨a, I1, J1, I2, J2, c1, hX1, c2, hG⟩ := u_27 (x := (I 2000004 (Int32.toNatClampNeg (nI i + (nI 1))))) h
    replace F := F.trans (bIe c1)
    have ex := FX.sx (J1 := J1) hX hX1
    replace F := F.trans (if_pos s_cS)
    replace F := F.trans (if_neg (s_inS (k := 1) hX1 hL (by omega)))
    simp only [ex] at F
    replace F := F.trans (bIe c2)
    replace F := F.trans (if_pos rfl)
    exact ⟨I2, J2, hG, F⟩
  replace E := E.trans (if_neg h27)
  by_cases h28 : (I 2000004 (Int32.toNatClampNeg (nI i))) &&& nI 63 = nI 28
  · have F := E.trans (if_pos h28)
    obtain ⟨a, I1, J1, I2, J2, c1, hX1, c2, hG⟩ := u_28  h
    replace F := F.trans (bIe c1)
    replace F := F.trans (bIe c2)
    replace F := F.trans (if_pos rfl)
    exact ⟨I2, J2, hG, F⟩
  replace E := E.trans (if_neg h28)
  by_cases h29 : (I 2000004 (Int32.toNatClampNeg (nI i))) &&& nI 63 = nI 29
  · have F := E.trans (if_pos h29)
    replace F := F.trans (if_pos s_c)
    replace F := F.trans (if_neg (s_in (k := 1) hX hL (by omega)))
    obtain ⟨a, I1, J1, I2, J2, c1, hX1, c2, hG⟩ := u_29 (x := (I 2000004 (Int32.toNatClampNeg (nI i + (nI 1))))) h
    replace F := F.trans (bIe c1)
    have ex := FX.sx (J1 := J1) hX hX1
    replace F := F.trans (if_pos s_cS)
    replace F := F.trans (if_neg (s_inS (k := 1) hX1 hL (by omega)))
    simp only [ex] at F
    replace F := F.trans (bIe c2)
    replace F := F.trans (if_pos rfl)
    exact ⟨I2, J2, hG, F⟩
  replace E := E.trans (if_neg h29)
  by_cases h30 : (I 2000004 (Int32.toNatClampNeg (nI i))) &&& nI 63 = nI 30
  · have F := E.trans (if_pos h30)
    replace F := F.trans (if_pos s_c)
    replace F := F.trans (if_neg (s_in (k := 1) hX hL (by omega)))
    replace F := F.trans (if_pos s_c)
    replace F := F.trans (if_neg (s_in (k := 2) hX hL (by omega)))
    obtain ⟨a, I1, J1, I2, J2, c1, hX1, c2, hG⟩ := u_30 (x := (I 2000004 (Int32.toNatClampNeg (nI i + (nI 1))))) (y := (I 2000004 (Int32.toNatClampNeg (nI i + (nI 2))))) h
    replace F := F.trans (bJe c1)
    have ex := FX.sx (J1 := J1) hX hX1
    replace F := F.trans (if_pos s_cS)
    replace F := F.trans (if_neg (s_inS (k := 1) hX1 hL (by omega)))
    replace F := F.trans (if_pos s_cS)
    replace F := F.trans (if_neg (s_inS (k := 2) hX1 hL (by omega)))
    simp only [ex] at F
    replace F := F.trans (bJe c2)
    replace F := F.trans (if_pos lgs)
    exact ⟨I2, J2, hG, F⟩
  replace E := E.trans (if_neg h30)
  by_cases h31 : (I 2000004 (Int32.toNatClampNeg (nI i))) &&& nI 63 = nI 31
  · have F := E.trans (if_pos h31)
    replace F := F.trans (if_pos s_c)
    replace F := F.trans (if_neg (s_in (k := 1) hX hL (by omega)))
    replace F := F.trans (if_pos s_c)
    replace F := F.trans (if_neg (s_in (k := 2) hX hL (by omega)))
    replace F := F.trans (if_pos s_c)
    replace F := F.trans (if_neg (s_in (k := 3) hX hL (by omega)))
    replace F := F.trans (if_pos s_c)
    replace F := F.trans (if_neg (s_in (k := 4) hX hL (by omega)))
    obtain ⟨a, I1, J1, I2, J2, c1, hX1, c2, hG⟩ := u_31 (x := (I 2000004 (Int32.toNatClampNeg (nI i + (nI 1))))) (y := (I 2000004 (Int32.toNatClampNeg (nI i + (nI 2))))) (l := (((Int32.toInt64 (I 2000004 (Int32.toNatClampNeg (nI i + (nI 3))))) <<< (Int32.toInt64 (nI 32) &&& 63)) ||| ((Int32.toInt64 (I 2000004 (Int32.toNatClampNeg (nI i + (nI 4))))) &&& (lN 4294967295)))) h
    replace F := F.trans (bJe c1)
    have ex := FX.sx (J1 := J1) hX hX1
    replace F := F.trans (if_pos s_cS)
    replace F := F.trans (if_neg (s_inS (k := 1) hX1 hL (by omega)))
    replace F := F.trans (if_pos s_cS)
    replace F := F.trans (if_neg (s_inS (k := 2) hX1 hL (by omega)))
    replace F := F.trans (if_pos s_cS)
    replace F := F.trans (if_neg (s_inS (k := 3) hX1 hL (by omega)))
    replace F := F.trans (if_pos s_cS)
    replace F := F.trans (if_neg (s_inS (k := 4) hX1 hL (by omega)))
    simp only [ex] at F
    replace F := F.trans (bJe c2)
    replace F := F.trans (if_pos lgs)
    exact ⟨I2, J2, hG, F⟩
  replace E := E.trans (if_neg h31)
  by_cases h32 : (I 2000004 (Int32.toNatClampNeg (nI i))) &&& nI 63 = nI 32
  · have F := E.trans (if_pos h32)
    replace F := F.trans (if_pos s_c)
    replace F := F.trans (if_neg (s_in (k := 1) hX hL (by omega)))
    obtain ⟨a, I1, J1, I2, J2, c1, hX1, c2, hG⟩ := u_32 (x := (I 2000004 (Int32.toNatClampNeg (nI i + (nI 1))))) h
    replace F := F.trans (bIe c1)
    have ex := FX.sx (J1 := J1) hX hX1
    replace F := F.trans (if_pos s_cS)
    replace F := F.trans (if_neg (s_inS (k := 1) hX1 hL (by omega)))
    simp only [ex] at F
    replace F := F.trans (bIe c2)
    replace F := F.trans (if_pos rfl)
    exact ⟨I2, J2, hG, F⟩
  replace E := E.trans (if_neg h32)
  by_cases h33 : (I 2000004 (Int32.toNatClampNeg (nI i))) &&& nI 63 = nI 33
  · have F := E.trans (if_pos h33)
    replace F := F.trans (if_pos s_c)
    replace F := F.trans (if_neg (s_in (k := 1) hX hL (by omega)))
    replace F := F.trans (if_pos s_c)
    replace F := F.trans (if_neg (s_in (k := 2) hX hL (by omega)))
    replace F := F.trans (if_pos s_c)
    replace F := F.trans (if_neg (s_in (k := 3) hX hL (by omega)))
    obtain ⟨a, I1, J1, I2, J2, c1, hX1, c2, hG⟩ := u_33 (x := (I 2000004 (Int32.toNatClampNeg (nI i + (nI 1))))) (y := (I 2000004 (Int32.toNatClampNeg (nI i + (nI 2))))) (z := (I 2000004 (Int32.toNatClampNeg (nI i + (nI 3))))) h
    replace F := F.trans (bIe c1)
    have ex := FX.sx (J1 := J1) hX hX1
    replace F := F.trans (if_pos s_cS)
    replace F := F.trans (if_neg (s_inS (k := 1) hX1 hL (by omega)))
    replace F := F.trans (if_pos s_cS)
    replace F := F.trans (if_neg (s_inS (k := 2) hX1 hL (by omega)))
    replace F := F.trans (if_pos s_cS)
    replace F := F.trans (if_neg (s_inS (k := 3) hX1 hL (by omega)))
    simp only [ex] at F
    replace F := F.trans (bIe c2)
    replace F := F.trans (if_pos rfl)
    exact ⟨I2, J2, hG, F⟩
  replace E := E.trans (if_neg h33)
  by_cases h34 : (I 2000004 (Int32.toNatClampNeg (nI i))) &&& nI 63 = nI 34
  · have F := E.trans (if_pos h34)
    replace F := F.trans (if_pos s_c)
    replace F := F.trans (if_neg (s_in (k := 1) hX hL (by omega)))
    replace F := F.trans (if_pos s_c)
    replace F := F.trans (if_neg (s_in (k := 2) hX hL (by omega)))
    replace F := F.trans (if_pos s_c)
    replace F := F.trans (if_neg (s_in (k := 3) hX hL (by omega)))
    obtain ⟨a, I1, J1, I2, J2, c1, hX1, c2, hG⟩ := u_34 (x := (I 2000004 (Int32.toNatClampNeg (nI i + (nI 1))))) (y := (I 2000004 (Int32.toNatClampNeg (nI i + (nI 2))))) (z := (I 2000004 (Int32.toNatClampNeg (nI i + (nI 3))))) h
    replace F := F.trans (bIe c1)
    have ex := FX.sx (J1 := J1) hX hX1
    replace F := F.trans (if_pos s_cS)
    replace F := F.trans (if_neg (s_inS (k := 1) hX1 hL (by omega)))
    replace F := F.trans (if_pos s_cS)
    replace F := F.trans (if_neg (s_inS (k := 2) hX1 hL (by omega)))
    replace F := F.trans (if_pos s_cS)
    replace F := F.trans (if_neg (s_inS (k := 3) hX1 hL (by omega)))
    simp only [ex] at F
    replace F := F.trans (bIe c2)
    replace F := F.trans (if_pos rfl)
    exact ⟨I2, J2, hG, F⟩
  replace E := E.trans (if_neg h34)
  by_cases h35 : (I 2000004 (Int32.toNatClampNeg (nI i))) &&& nI 63 = nI 35
  · have F := E.trans (if_pos h35)
    replace F := F.trans (if_pos s_c)
    replace F := F.trans (if_neg (s_in (k := 1) hX hL (by omega)))
    replace F := F.trans (if_pos s_c)
    replace F := F.trans (if_neg (s_in (k := 2) hX hL (by omega)))
    replace F := F.trans (if_pos s_c)
    replace F := F.trans (if_neg (s_in (k := 3) hX hL (by omega)))
    obtain ⟨a, I1, J1, I2, J2, c1, hX1, c2, hG⟩ := u_35 (x := (I 2000004 (Int32.toNatClampNeg (nI i + (nI 1))))) (y := (I 2000004 (Int32.toNatClampNeg (nI i + (nI 2))))) (z := (I 2000004 (Int32.toNatClampNeg (nI i + (nI 3))))) h
    replace F := F.trans (bIe c1)
    have ex := FX.sx (J1 := J1) hX hX1
    replace F := F.trans (if_pos s_cS)
    replace F := F.trans (if_neg (s_inS (k := 1) hX1 hL (by omega)))
    replace F := F.trans (if_pos s_cS)
    replace F := F.trans (if_neg (s_inS (k := 2) hX1 hL (by omega)))
    replace F := F.trans (if_pos s_cS)
    replace F := F.trans (if_neg (s_inS (k := 3) hX1 hL (by omega)))
    simp only [ex] at F
    replace F := F.trans (bIe c2)
    replace F := F.trans (if_pos rfl)
    exact ⟨I2, J2, hG, F⟩
  replace E := E.trans (if_neg h35)
  by_cases h36 : (I 2000004 (Int32.toNatClampNeg (nI i))) &&& nI 63 = nI 36
  · have F := E.trans (if_pos h36)
    replace F := F.trans (if_pos s_c)
    replace F := F.trans (if_neg (s_in (k := 1) hX hL (by omega)))
    replace F := F.trans (if_pos s_c)
    replace F := F.trans (if_neg (s_in (k := 2) hX hL (by omega)))
    replace F := F.trans (if_pos s_c)
    replace F := F.trans (if_neg (s_in (k := 3) hX hL (by omega)))
    replace F := F.trans (if_pos s_c)
    replace F := F.trans (if_neg (s_in (k := 4) hX hL (by omega)))
    obtain ⟨a, I1, J1, I2, J2, c1, hX1, c2, hG⟩ := u_36 (x := (I 2000004 (Int32.toNatClampNeg (nI i + (nI 1))))) (y := (I 2000004 (Int32.toNatClampNeg (nI i + (nI 2))))) (z := (I 2000004 (Int32.toNatClampNeg (nI i + (nI 3))))) (w := (I 2000004 (Int32.toNatClampNeg (nI i + (nI 4))))) h
    replace F := F.trans (bIe c1)
    have ex := FX.sx (J1 := J1) hX hX1
    replace F := F.trans (if_pos s_cS)
    replace F := F.trans (if_neg (s_inS (k := 1) hX1 hL (by omega)))
    replace F := F.trans (if_pos s_cS)
    replace F := F.trans (if_neg (s_inS (k := 2) hX1 hL (by omega)))
    replace F := F.trans (if_pos s_cS)
    replace F := F.trans (if_neg (s_inS (k := 3) hX1 hL (by omega)))
    replace F := F.trans (if_pos s_cS)
    replace F := F.trans (if_neg (s_inS (k := 4) hX1 hL (by omega)))
    simp only [ex] at F
    replace F := F.trans (bIe c2)
    replace F := F.trans (if_pos rfl)
    exact ⟨I2, J2, hG, F⟩
  replace E := E.trans (if_neg h36)
  by_cases h37 : (I 2000004 (Int32.toNatClampNeg (nI i))) &&& nI 63 = nI 37
  · have F := E.trans (if_pos h37)
    replace F := F.trans (if_pos s_c)
    replace F := F.trans (if_neg (s_in (k := 1) hX hL (by omega)))
    replace F := F.trans (if_pos s_c)
    replace F := F.trans (if_neg (s_in (k := 2) hX hL (by omega)))
    replace F := F.trans (if_pos s_c)
    replace F := F.trans (if_neg (s_in (k := 3) hX hL (by omega)))
    obtain ⟨a, I1, J1, I2, J2, c1, hX1, c2, hG⟩ := u_37 (x := (I 2000004 (Int32.toNatClampNeg (nI i + (nI 1))))) (y := (I 2000004 (Int32.toNatClampNeg (nI i + (nI 2))))) (z := (I 2000004 (Int32.toNatClampNeg (nI i + (nI 3))))) h
    replace F := F.trans (bIe c1)
    have ex := FX.sx (J1 := J1) hX hX1
    replace F := F.trans (if_pos s_cS)
    replace F := F.trans (if_neg (s_inS (k := 1) hX1 hL (by omega)))
    replace F := F.trans (if_pos s_cS)
    replace F := F.trans (if_neg (s_inS (k := 2) hX1 hL (by omega)))
    replace F := F.trans (if_pos s_cS)
    replace F := F.trans (if_neg (s_inS (k := 3) hX1 hL (by omega)))
    simp only [ex] at F
    replace F := F.trans (bIe c2)
    replace F := F.trans (if_pos rfl)
    exact ⟨I2, J2, hG, F⟩
  replace E := E.trans (if_neg h37)
  by_cases h38 : (I 2000004 (Int32.toNatClampNeg (nI i))) &&& nI 63 = nI 38
  · have F := E.trans (if_pos h38)
    replace F := F.trans (if_pos s_c)
    replace F := F.trans (if_neg (s_in (k := 1) hX hL (by omega)))
    replace F := F.trans (if_pos s_c)
    replace F := F.trans (if_neg (s_in (k := 2) hX hL (by omega)))
    obtain ⟨a, I1, J1, I2, J2, c1, hX1, c2, hG⟩ := u_38 (x := (I 2000004 (Int32.toNatClampNeg (nI i + (nI 1))))) (y := (I 2000004 (Int32.toNatClampNeg (nI i + (nI 2))))) h
    replace F := F.trans (bIe c1)
    have ex := FX.sx (J1 := J1) hX hX1
    replace F := F.trans (if_pos s_cS)
    replace F := F.trans (if_neg (s_inS (k := 1) hX1 hL (by omega)))
    replace F := F.trans (if_pos s_cS)
    replace F := F.trans (if_neg (s_inS (k := 2) hX1 hL (by omega)))
    simp only [ex] at F
    replace F := F.trans (bIe c2)
    replace F := F.trans (if_pos rfl)
    exact ⟨I2, J2, hG, F⟩
  replace E := E.trans (if_neg h38)
  by_cases h39 : (I 2000004 (Int32.toNatClampNeg (nI i))) &&& nI 63 = nI 39
  · have F := E.trans (if_pos h39)
    replace F := F.trans (if_pos s_c)
    replace F := F.trans (if_neg (s_in (k := 1) hX hL (by omega)))
    replace F := F.trans (if_pos s_c)
    replace F := F.trans (if_neg (s_in (k := 2) hX hL (by omega)))
    replace F := F.trans (if_pos s_c)
    replace F := F.trans (if_neg (s_in (k := 3) hX hL (by omega)))
    obtain ⟨a, I1, J1, I2, J2, c1, hX1, c2, hG⟩ := u_39 (x := (I 2000004 (Int32.toNatClampNeg (nI i + (nI 1))))) (y := (I 2000004 (Int32.toNatClampNeg (nI i + (nI 2))))) (z := (I 2000004 (Int32.toNatClampNeg (nI i + (nI 3))))) h
    replace F := F.trans (bIe c1)
    have ex := FX.sx (J1 := J1) hX hX1
    replace F := F.trans (if_pos s_cS)
    replace F := F.trans (if_neg (s_inS (k := 1) hX1 hL (by omega)))
    replace F := F.trans (if_pos s_cS)
    replace F := F.trans (if_neg (s_inS (k := 2) hX1 hL (by omega)))
    replace F := F.trans (if_pos s_cS)
    replace F := F.trans (if_neg (s_inS (k := 3) hX1 hL (by omega)))
    simp only [ex] at F
    replace F := F.trans (bIe c2)
    replace F := F.trans (if_pos rfl)
    exact ⟨I2, J2, hG, F⟩
  replace E := E.trans (if_neg h39)
  by_cases h40 : (I 2000004 (Int32.toNatClampNeg (nI i))) &&& nI 63 = nI 40
  · have F := E.trans (if_pos h40)
    replace F := F.trans (if_pos s_c)
    replace F := F.trans (if_neg (s_in (k := 1) hX hL (by omega)))
    obtain ⟨a, I1, J1, I2, J2, c1, hX1, c2, hG⟩ := u_40 (x := (I 2000004 (Int32.toNatClampNeg (nI i + (nI 1))))) h
    replace F := F.trans (bIe c1)
    have ex := FX.sx (J1 := J1) hX hX1
    replace F := F.trans (if_pos s_cS)
    replace F := F.trans (if_neg (s_inS (k := 1) hX1 hL (by omega)))
    simp only [ex] at F
    replace F := F.trans (bIe c2)
    replace F := F.trans (if_pos rfl)
    exact ⟨I2, J2, hG, F⟩
  replace E := E.trans (if_neg h40)
  by_cases h41 : (I 2000004 (Int32.toNatClampNeg (nI i))) &&& nI 63 = nI 41
  · have F := E.trans (if_pos h41)
    replace F := F.trans (if_pos s_c)
    replace F := F.trans (if_neg (s_in (k := 1) hX hL (by omega)))
    obtain ⟨a, I1, J1, I2, J2, c1, hX1, c2, hG⟩ := u_41 (x := (I 2000004 (Int32.toNatClampNeg (nI i + (nI 1))))) h
    replace F := F.trans (bIe c1)
    have ex := FX.sx (J1 := J1) hX hX1
    replace F := F.trans (if_pos s_cS)
    replace F := F.trans (if_neg (s_inS (k := 1) hX1 hL (by omega)))
    simp only [ex] at F
    replace F := F.trans (bIe c2)
    replace F := F.trans (if_pos rfl)
    exact ⟨I2, J2, hG, F⟩
  replace E := E.trans (if_neg h41)
  by_cases h42 : (I 2000004 (Int32.toNatClampNeg (nI i))) &&& nI 63 = nI 42
  · have F := E.trans (if_pos h42)
    obtain ⟨a, I1, J1, I2, J2, c1, hX1, c2, hG⟩ := u_42  h
    replace F := F.trans (bIe c1)
    replace F := F.trans (bIe c2)
    replace F := F.trans (if_pos rfl)
    exact ⟨I2, J2, hG, F⟩
  replace E := E.trans (if_neg h42)
  by_cases h43 : (I 2000004 (Int32.toNatClampNeg (nI i))) &&& nI 63 = nI 43
  · have F := E.trans (if_pos h43)
    obtain ⟨a, I1, J1, I2, J2, c1, hX1, c2, hG⟩ := u_43  h
    replace F := F.trans (bIe c1)
    replace F := F.trans (bIe c2)
    replace F := F.trans (if_pos rfl)
    exact ⟨I2, J2, hG, F⟩
  replace E := E.trans (if_neg h43)
  exact ⟨I, J, h, E⟩
theorem s_end (hL : L ≤ 3072) (hi : i ≤ 4000) (h : L < i + 6) : nI L - nI 6 < nI i := by
  by_cases h6 : 6 ≤ L
  · rw [n_sub h6, n_lt (by omega) (by omega)]; omega
  · have h0 : ¬ nI i < 0 := by rw [n_ge0 (show i < 2 ^ 31 by omega)]; exact id
    have hn : nI L - nI 6 < 0 := by
      rcases (show L = 0 ∨ L = 1 ∨ L = 2 ∨ L = 3 ∨ L = 4 ∨ L = 5 by omega) with rfl | rfl | rfl | rfl | rfl | rfl <;> decide
    rw [Int32.lt_iff_toInt_lt] at h0 hn ⊢
    omega
theorem u_loop (hL : L ≤ 3072) : ∀ f i (I : mI) (J : mJ), L < i + 6 * f + 6 → i ≤ 3078 → uG L xs I J → ∃ I' J', am_X (am_cal 1000) 274 10 [.ref 2000004, .ref 0, .ref 229, .int (nI i)] [] (mS I J) = some (some (.int (nI 1)), mS I' J') := by
  have fin : ∀ i (I : mI) (J : mJ), L < i + 6 → i ≤ 3078 → uG L xs I J → ∃ I' J', am_X (am_cal 1000) 274 10 [.ref 2000004, .ref 0, .ref 229, .int (nI i)] [] (mS I J) = some (some (.int (nI 1)), mS I' J') := by
    intro i I J h hi hG
    have hX : FX L xs I := by
      obtain ⟨_, _, _, _, _, _, _, _, _, _, _, _, _, _, _, _, _, _, hX⟩ := hG
      exact hX
    have E := e_274_10 (f := am_cal 1000) (b0 := 2000004) (b1 := 0) (b2 := 229) (x3 := nI i) (I := I) (J := J)
    replace E := E.trans (if_pos s_c)
    replace E := E.trans (if_pos (by rw [hX.sl]; exact s_end hL (by omega) h))
    exact ⟨I, J, E⟩
  intro f
  induction f with
  | zero =>
    intro i I J h hi hG
    exact fin i I J (by omega) hi hG
  | succ f ih =>
    intro i I J h hi hG
    by_cases h6 : L < i + 6
    · exact fin i I J h6 hi hG
    · have hX : FX L xs I := by
        obtain ⟨_, _, _, _, _, _, _, _, _, _, _, _, _, _, _, _, _, _, hX⟩ := hG
        exact hX
      obtain ⟨I1, J1, hG1, e1⟩ := uStep_t (i := i) hG hX hL (by omega)
      obtain ⟨I2, J2, e2⟩ := ih (i + 6) I1 J1 (by omega) (by omega) hG1
      refine ⟨I2, J2, e1.trans (e_274_1182.trans ?_)⟩
      rw [nI_add]
      exact e2
end K5s
