/-! ===== the law's calls: the questions, and what writes the world ===== -/
section K3s
variable {I I' I1 I2 : mI} {J J' J1 J2 : mJ} {s s' t : Rw} {b : Bool} {A : Nat → Nat} {n m r L : Nat} {R : Nat → Nat → Int64} {S : Nat → Int32} {Z : Nat → Nat} {T : Nat → Nat → Int32} {W : Nat → Nat} {H Y : Nat → Int32} {D xs : Nat → Int32} {as : List Value} {v : Value} {x y z u w : Int32} {kx ky : Nat}
theorem FM_r : FM I I := ⟨fun _ _ _ _ _ _ => rfl, fun _ _ => rfl⟩
theorem u_6 (h : uG L xs I J) : ∃ a, uA L xs I J 98 173 [.int x, .int y] (.int a) := by
  obtain ⟨s, t, b, A, n, R, m, S, Z, T, W, H, Y, r, D, hC, hM, hN, hX⟩ := h
  have a3 := k98 (d := 997) (J := J) (x := x) (y := y) hC.1 hN.1
  refine ⟨_, uQ hC hM hN hX ⟨I, J, QC_r, a3⟩ fun I1 J1 hM1 => ?_⟩
  have e := hM1.1
  subst e
  obtain ⟨I2, b1, b3⟩ := m173 (d := 994) (J := J1) (I := I1) (x := x) (y := y) hN.1
  exact ⟨I2, J1, QM_2 b1, b3⟩
theorem u_7 (h : uG L xs I J) : ∃ a, uA L xs I J 99 175 [.int x] (.int a) := by
  obtain ⟨s, t, b, A, n, R, m, S, Z, T, W, H, Y, r, D, hC, hM, hN, hX⟩ := h
  have a3 := k99 (d := 998) (J := J) (x := x) hC.1 hN.1
  refine ⟨_, uQ hC hM hN hX ⟨I, J, QC_r, a3⟩ fun I1 J1 hM1 => ?_⟩
  have e := hM1.1
  subst e
  have b3 := m175 (d := 997) (J := J1) (I := I1) (x := x) hN.1
  exact ⟨I1, J1, QM_r, b3⟩
theorem u_8 (h : uG L xs I J) : ∃ a, uA L xs I J 100 176 [.int x, .int y] (.int a) := by
  obtain ⟨s, t, b, A, n, R, m, S, Z, T, W, H, Y, r, D, hC, hM, hN, hX⟩ := h
  have a3 := k100 (d := 998) (J := J) (x := x) (y := y) hC.1 hN.1
  refine ⟨_, uQ hC hM hN hX ⟨I, J, QC_r, a3⟩ fun I1 J1 hM1 => ?_⟩
  have e := hM1.1
  subst e
  have b3 := m176 (d := 997) (J := J1) (I := I1) (x := x) (y := y) hN.1
  exact ⟨I1, J1, QM_r, b3⟩
theorem u_11 (h : uG L xs I J) : ∃ a, uA L xs I J 103 200 [.int x, .int y] (.int a) := by
  obtain ⟨s, t, b, A, n, R, m, S, Z, T, W, H, Y, r, D, hC, hM, hN, hX⟩ := h
  obtain ⟨I', a1, a3⟩ := k103 (d := 995) (J := J) (x := x) (y := y) hC.1 hN.1
  refine ⟨_, uQ hC hM hN hX ⟨I', J, QC_13 a1, a3⟩ fun I1 J1 hM1 => ?_⟩
  have e := hM1.1
  subst e
  obtain ⟨I2, b1, b3⟩ := m200 (d := 995) (J := J1) (I := I1) (x := x) (y := y) hN.1
  exact ⟨I2, J1, QM_2 b1, b3⟩
theorem u_13 (h : uG L xs I J) : ∃ a, uA L xs I J 105 204 [.int x, .int y] (.int a) := by
  obtain ⟨s, t, b, A, n, R, m, S, Z, T, W, H, Y, r, D, hC, hM, hN, hX⟩ := h
  have a3 := k105 (d := 998) (J := J) (x := x) (y := y) hC.1 hN.1
  refine ⟨_, uQ hC hM hN hX ⟨I, J, QC_r, a3⟩ fun I1 J1 hM1 => ?_⟩
  have e := hM1.1
  subst e
  have b3 := m204 (d := 997) (J := J1) (I := I1) (x := x) (y := y) hN.1
  exact ⟨I1, J1, QM_r, b3⟩
theorem u_14 (h : uG L xs I J) : ∃ a, uA L xs I J 106 211 [.int x, .int y, .int z] (.long a) := by
  obtain ⟨s, t, b, A, n, R, m, S, Z, T, W, H, Y, r, D, hC, hM, hN, hX⟩ := h
  obtain ⟨I', J', a1, a2, a3⟩ := k106 (d := 993) (J := J) (x := x) (y := y) (z := z) hC.1 hN.1
  refine ⟨_, uQ hC hM hN hX ⟨I', J', QC_CG a1 a2, a3⟩ fun I1 J1 hM1 => ?_⟩
  have e := hM1.1
  subst e
  obtain ⟨I2, J2, b1, b2, b3⟩ := m211 (d := 991) (J := J1) (I := I1) (x := x) (y := y) (z := z) hN.1
  exact ⟨I2, J2, QM_MG b1 b2, b3⟩
theorem u_15 (h : uG L xs I J) : ∃ a, uA L xs I J 107 213 [.int x, .int y, .int z] (.long a) := by
  obtain ⟨s, t, b, A, n, R, m, S, Z, T, W, H, Y, r, D, hC, hM, hN, hX⟩ := h
  obtain ⟨I', J', a1, a2, a3⟩ := k107 (d := 992) (J := J) (x := x) (y := y) (z := z) hC.1 hN.1
  refine ⟨_, uQ hC hM hN hX ⟨I', J', QC_CG a1 a2, a3⟩ fun I1 J1 hM1 => ?_⟩
  have e := hM1.1
  subst e
  obtain ⟨I2, J2, b1, b2, b3⟩ := m213 (d := 990) (J := J1) (I := I1) (x := x) (y := y) (z := z) hN.1
  exact ⟨I2, J2, QM_MG b1 b2, b3⟩
theorem u_17 (h : uG L xs I J) : ∃ a, uA L xs I J 109 217 [.int x, .int y] (.int a) := by
  obtain ⟨s, t, b, A, n, R, m, S, Z, T, W, H, Y, r, D, hC, hM, hN, hX⟩ := h
  obtain ⟨I', a1, a3⟩ := k109 (g := 997) (J := J) (x := x) (y := y) hC.1 hN.1
  refine ⟨_, uQ hC hM hN hX ⟨I', J, QC_C a1, a3⟩ fun I1 J1 hM1 => ?_⟩
  have e := hM1.1
  subst e
  have b3 := m217 (g := 996) (J := J1) (I := I1) (x := x) (y := y) hN.1
  exact ⟨I1, J1, QM_r, b3⟩
theorem u_18 (h : uG L xs I J) : ∃ a, uA L xs I J 110 220 [.int y] (.int a) := by
  obtain ⟨s, t, b, A, n, R, m, S, Z, T, W, H, Y, r, D, hC, hM, hN, hX⟩ := h
  obtain ⟨I', a1, a3⟩ := k110 (g := 994) (J := J) (y := y) hC.1 hN.1
  refine ⟨_, uQ hC hM hN hX ⟨I', J, QC_C a1, a3⟩ fun I1 J1 hM1 => ?_⟩
  have e := hM1.1
  subst e
  obtain ⟨I2, b1, b3⟩ := m220 (g := 993) (J := J1) (I := I1) (y := y) hN.1
  exact ⟨I2, J1, QM_2 b1, b3⟩
theorem u_20 (h : uG L xs I J) : ∃ a, uA L xs I J 112 229 [.int x] (.int a) := by
  obtain ⟨s, t, b, A, n, R, m, S, Z, T, W, H, Y, r, D, hC, hM, hN, hX⟩ := h
  obtain ⟨I', a1, a3⟩ := k112 (d := 992) (J := J) (x := x) hC.1 hN.1
  refine ⟨_, uQ hC hM hN hX ⟨I', J, QC_C a1, a3⟩ fun I1 J1 hM1 => ?_⟩
  have e := hM1.1
  subst e
  obtain ⟨I2, b1, b3⟩ := m229 (d := 990) (J := J1) (I := I1) (x := x) hN.1
  exact ⟨I2, J1, QM_M b1, b3⟩
theorem u_21 (h : uG L xs I J) : ∃ a, uA L xs I J 113 232 [.int x, .int y] (.int a) := by
  obtain ⟨s, t, b, A, n, R, m, S, Z, T, W, H, Y, r, D, hC, hM, hN, hX⟩ := h
  obtain ⟨I', a1, a3⟩ := k113 (g := 994) (J := J) (x := x) (y := y) hC.1 hN.1
  refine ⟨_, uQ hC hM hN hX ⟨I', J, QC_C a1, a3⟩ fun I1 J1 hM1 => ?_⟩
  have e := hM1.1
  subst e
  obtain ⟨I2, b1, b3⟩ := m232 (g := 992) (J := J1) (I := I1) (x := x) (y := y) hN.1
  exact ⟨I2, J1, QM_M b1, b3⟩
theorem u_22 (h : uG L xs I J) : ∃ a, uA L xs I J 114 233 [.int x] (.int a) := by
  obtain ⟨s, t, b, A, n, R, m, S, Z, T, W, H, Y, r, D, hC, hM, hN, hX⟩ := h
  obtain ⟨I', a1, a3⟩ := k114 (g := 993) (J := J) (x := x) hC.1 hN.1
  refine ⟨_, uQ hC hM hN hX ⟨I', J, QC_C a1, a3⟩ fun I1 J1 hM1 => ?_⟩
  have e := hM1.1
  subst e
  obtain ⟨I2, b1, b3⟩ := m233 (g := 992) (J := J1) (I := I1) (x := x) hN.1
  exact ⟨I2, J1, QM_M b1, b3⟩
theorem u_23 (h : uG L xs I J) : ∃ a, uA L xs I J 115 221 [.int x, .int y] (.int a) := by
  obtain ⟨s, t, b, A, n, R, m, S, Z, T, W, H, Y, r, D, hC, hM, hN, hX⟩ := h
  obtain ⟨I', a1, a3⟩ := k115 (g := 996) (J := J) (x := x) (y := y) hC.1 hN.1
  refine ⟨_, uQ hC hM hN hX ⟨I', J, QC_C a1, a3⟩ fun I1 J1 hM1 => ?_⟩
  have e := hM1.1
  subst e
  have b3 := m221 (g := 996) (J := J1) (I := I1) (x := x) (y := y) hN.1
  exact ⟨I1, J1, QM_r, b3⟩
theorem u_24 (h : uG L xs I J) : ∃ a, uA L xs I J 116 224 [.int x] (.int a) := by
  obtain ⟨s, t, b, A, n, R, m, S, Z, T, W, H, Y, r, D, hC, hM, hN, hX⟩ := h
  obtain ⟨I', a1, a3⟩ := k116 (g := 996) (J := J) (x := x) hC.1 hN.1
  refine ⟨_, uQ hC hM hN hX ⟨I', J, QC_C a1, a3⟩ fun I1 J1 hM1 => ?_⟩
  have e := hM1.1
  subst e
  obtain ⟨I2, b1, b3⟩ := m224 (g := 996) (J := J1) (I := I1) (x := x) hN.1
  exact ⟨I2, J1, QM_40 b1, b3⟩
theorem u_25 (h : uG L xs I J) : ∃ a, uA L xs I J 117 237 [.int x, .int y] (.long a) := by
  obtain ⟨s, t, b, A, n, R, m, S, Z, T, W, H, Y, r, D, hC, hM, hN, hX⟩ := h
  obtain ⟨I', J', a1, a2, a3⟩ := k117 (d := 992) (J := J) (x := x) (y := y) hC.1 hN.1
  refine ⟨_, uQ hC hM hN hX ⟨I', J', QC_Y a1 a2, a3⟩ fun I1 J1 hM1 => ?_⟩
  have e := hM1.1
  subst e
  obtain ⟨I2, J2, b1, b2, b3⟩ := m237 (d := 988) (J := J1) (I := I1) (x := x) (y := y) hN.1
  exact ⟨I2, J2, QM_Y b1 b2, b3⟩
theorem u_26 (h : uG L xs I J) : ∃ a, uA L xs I J 119 238 [.int x, .int y, .int z] (.long a) := by
  obtain ⟨s, t, b, A, n, R, m, S, Z, T, W, H, Y, r, D, hC, hM, hN, hX⟩ := h
  obtain ⟨I', J', a1, a2, a3⟩ := k119 (d := 993) (J := J) (x := x) (y := y) (z := z) hC.1 hN.1
  refine ⟨_, uQ hC hM hN hX ⟨I', J', QC_Q a1 a2, a3⟩ fun I1 J1 hM1 => ?_⟩
  have e := hM1.1
  subst e
  obtain ⟨I2, J2, b1, b2, b3⟩ := m238 (d := 991) (J := J1) (I := I1) (x := x) (y := y) (z := z) hN.1
  exact ⟨I2, J2, QM_Y b1 b2, b3⟩
theorem u_30 (h : uG L xs I J) : ∃ a, uA L xs I J 123 242 [.int x, .int y] (.long a) := by
  obtain ⟨s, t, b, A, n, R, m, S, Z, T, W, H, Y, r, D, hC, hM, hN, hX⟩ := h
  have a3 := k123 (d := 998) (J := J) (x := x) (y := y) hN.2.2.2.1 hC.2.2.2.1.1 hC.2.2.2.1.2
  refine ⟨_, uQ hC hM hN hX ⟨I, J, QC_r, a3⟩ fun I1 J1 hM1 => ?_⟩
  have e := hM1.1
  subst e
  have b3 := m242 (d := 998) (J := J1) (I := I1) (x := x) (y := y) hN.2.2.2.1 hM1.2.2.2.1.1 hM1.2.2.2.1.2
  exact ⟨I1, J1, QM_r, b3⟩
theorem u_32 (h : uG L xs I J) : ∃ a, uA L xs I J 125 244 [.int x] (.int a) := by
  obtain ⟨s, t, b, A, n, R, m, S, Z, T, W, H, Y, r, D, hC, hM, hN, hX⟩ := h
  obtain ⟨I', J', a1, a2, a3⟩ := k125 (d := 993) (J := J) (x := x) hC.1 hN.1 hN.2.2.2.1 hC.2.2.2.1.1 hC.2.2.2.1.2
  refine ⟨_, uQ hC hM hN hX ⟨I', J', QC_CG a1 a2, a3⟩ fun I1 J1 hM1 => ?_⟩
  have e := hM1.1
  subst e
  obtain ⟨I2, J2, b1, b2, b3⟩ := m244 (d := 991) (J := J1) (I := I1) (x := x) hN.1 hN.2.2.2.1 hM1.2.2.2.1.1 hM1.2.2.2.1.2
  exact ⟨I2, J2, QM_MG b1 b2, b3⟩
theorem u_35 (h : uG L xs I J) : ∃ a, uA L xs I J 130 250 [.int x, .int y, .int z] (.int a) := by
  obtain ⟨s, t, b, A, n, R, m, S, Z, T, W, H, Y, r, D, hC, hM, hN, hX⟩ := h
  have a3 := k130 (d := 998) (J := J) (x := x) (y := y) (z := z) hN.2.2.2.2 hC.2.2.2.2.1
  refine ⟨_, uQ hC hM hN hX ⟨I, J, QC_r, a3⟩ fun I1 J1 hM1 => ?_⟩
  have e := hM1.1
  subst e
  have b3 := m250 (d := 997) (J := J1) (I := I1) (x := x) (y := y) (z := z) hN.2.2.2.2 hM1.2.2.2.2.1
  exact ⟨I1, J1, QM_r, b3⟩
theorem u_38 (h : uG L xs I J) : ∃ a, uA L xs I J 133 255 [.int x, .int y] (.int a) := by
  obtain ⟨s, t, b, A, n, R, m, S, Z, T, W, H, Y, r, D, hC, hM, hN, hX⟩ := h
  have a3 := k133 (d := 997) (J := J) (x := x) (y := y) hC.2.2.2.2.2.1 hC.1 hN.1
  refine ⟨_, uQ hC hM hN hX ⟨I, J, QC_r, a3⟩ fun I1 J1 hM1 => ?_⟩
  have e := hM1.1
  subst e
  obtain ⟨I2, b1, b3⟩ := m255 (d := 996) (J := J1) (I := I1) (x := x) (y := y) hM1.2.2.2.2.2.1 hN.1
  exact ⟨I2, J1, QM_T b1, b3⟩
theorem u_40 (h : uG L xs I J) : ∃ a, uA L xs I J 135 267 [.int x] (.int a) := by
  obtain ⟨s, t, b, A, n, R, m, S, Z, T, W, H, Y, r, D, hC, hM, hN, hX⟩ := h
  have a3 := k135 (d := 999) (J := J) (x := x) hC.2.2.2.2.2.2.2.1 hC.2.2.2.2.2.2.1 hC.2.2.2.2.2.2.2.2
  refine ⟨_, uQ hC hM hN hX ⟨I, J, QC_r, a3⟩ fun I1 J1 hM1 => ?_⟩
  have e := hM1.1
  subst e
  have b3 := m267 (d := 998) (J := J1) (I := I1) (x := x) hM1.2.2.2.2.2.2.2.1 hM1.2.2.2.2.2.2.1 hM1.2.2.2.2.2.2.2.2
  exact ⟨I1, J1, QM_r, b3⟩
theorem u_41 (h : uG L xs I J) : ∃ a, uA L xs I J 136 268 [.int x] (.int a) := by
  obtain ⟨s, t, b, A, n, R, m, S, Z, T, W, H, Y, r, D, hC, hM, hN, hX⟩ := h
  have a3 := k136 (d := 997) (J := J) (x := x) hC.1 hN.1 hC.2.2.2.1.1 hC.2.2.1.1 hC.2.2.2.2.2.2.1
  refine ⟨_, uQ hC hM hN hX ⟨I, J, QC_r, a3⟩ fun I1 J1 hM1 => ?_⟩
  have e := hM1.1
  subst e
  have b3 := m268 (d := 996) (J := J1) (I := I1) (x := x) hN.1 hM1.2.2.2.1.1 hM1.2.2.1.1 hM1.2.2.2.2.2.2.1
  exact ⟨I1, J1, QM_r, b3⟩
theorem dbU_hi (x : Int32) (Tq : Nat → Int32) (Z i : Nat) : ∀ (n k c : Nat) (s : Rw), hiS (dbU x Tq Z i n k c s).1 s := by
  intro n
  induction n with
  | zero => intro k c s; exact hiS_r
  | succ n ih =>
    intro k c s
    rw [dbU_s]
    by_cases hh : i + k < Z
    · rw [if_pos hh]
      exact fun j hj => (ih _ _ _ j hj).trans (hiS_claim j hj)
    · rw [if_neg hh]; exact hiS_r
theorem hiS_debts : hiS (v_debts s S Z T x y z w).1 s := by
  unfold v_debts
  by_cases h1 : okDb s x y w
  · rw [if_pos h1]
    by_cases h2 : S y.toNatClampNeg = Int32.ofInt (-1)
    · rw [if_pos h2]; exact hiS_r
    · rw [if_neg h2]
      by_cases h3 : S y.toNatClampNeg = nI 1
      · rw [if_pos h3]
        by_cases h4 : w = nI 0
        · rw [if_pos h4]; exact hiS_r
        · rw [if_neg h4]
          by_cases h5 : z < 0
          · rw [if_pos h5]; exact hiS_r
          · rw [if_neg h5]; exact dbU_hi _ _ _ _ _ _ _ _
      · rw [if_neg h3]; exact hiS_r
  · rw [if_neg h1]; exact hiS_r
theorem u_0 (h : uG L xs I J) : ∃ a, uA L xs I J 92 160 [.int x] (.int a) := by
  obtain ⟨s, t, b, A, n, R, m, S, Z, T, W, H, Y, r, D, hC, hM, hN, hX⟩ := h
  have a3 := k92 (d := 999) (J := J) (x := x) hC.1 hN.1
  refine ⟨_, uW (s' := tr_later s x) hC hM hN hX (W_later hN.1) hiS_later a3 fun I1 J1 hM1 => ?_⟩
  have e := hM1.1
  subst e
  have b3 := m160 (d := 998) (J := J1) (I := I1) (x := x) hN.1
  exact ⟨I1, FM_r, b3⟩
theorem u_1 (h : uG L xs I J) : ∃ a, uA L xs I J 93 163 [] (.int a) := by
  obtain ⟨s, t, b, A, n, R, m, S, Z, T, W, H, Y, r, D, hC, hM, hN, hX⟩ := h
  have a3 := k93 (d := 995) (J := J)  hC.1 hN.1
  refine ⟨_, uW (s' := tr_born s) hC hM hN hX (W_born hN.1) hiS_born a3 fun I1 J1 hM1 => ?_⟩
  have e := hM1.1
  subst e
  have b3 := m163 (d := 997) (J := J1) (I := I1)  hN.1
  exact ⟨I1, FM_r, b3⟩
theorem u_2 (h : uG L xs I J) {v : Int32} (hv : v = 0 ∨ v = 1) : ∃ a, uA L xs I J 94 165 [.int x, .int y, .int z, .int u, .int v] (.int a) := by
  obtain ⟨s, t, b, A, n, R, m, S, Z, T, W, H, Y, r, D, hC, hM, hN, hX⟩ := h
  have a3 := k94 (d := 993) (J := J) (x := x) (y := y) (z := z) (u := u) (v := v) hC.1 hN.1 hv
  refine ⟨_, uW (s' := tr_copied s x y z u v) hC hM hN hX (W_copied hN.1) hiS_copied a3 fun I1 J1 hM1 => ?_⟩
  have e := hM1.1
  subst e
  have b3 := m165 (d := 996) (J := J1) (I := I1) (x := x) (y := y) (z := z) (u := u) (v := v) hN.1
  exact ⟨I1, FM_r, b3⟩
theorem u_3 (h : uG L xs I J) : ∃ a, uA L xs I J 95 166 [.int x] (.int a) := by
  obtain ⟨s, t, b, A, n, R, m, S, Z, T, W, H, Y, r, D, hC, hM, hN, hX⟩ := h
  have a3 := k95 (d := 996) (J := J) (x := x) hC.1 hN.1
  refine ⟨_, uW (s' := tr_wake s x) hC hM hN hX (W_wake hN.1) (hiS_wake hN.1) a3 fun I1 J1 hM1 => ?_⟩
  have e := hM1.1
  subst e
  have b3 := m166 (d := 997) (J := J1) (I := I1) (x := x) hN.1
  exact ⟨I1, FM_r, b3⟩
theorem u_4 (h : uG L xs I J) : ∃ a, uA L xs I J 96 168 [.int x, .int y] (.int a) := by
  obtain ⟨s, t, b, A, n, R, m, S, Z, T, W, H, Y, r, D, hC, hM, hN, hX⟩ := h
  have a3 := k96 (d := 995) (J := J) (x := x) (y := y) hC.1 hN.1
  refine ⟨_, uW (s' := tr_join s x y) hC hM hN hX (W_join hN.1) (hiS_join hN.1) a3 fun I1 J1 hM1 => ?_⟩
  have e := hM1.1
  subst e
  have b3 := m168 (d := 996) (J := J1) (I := I1) (x := x) (y := y) hN.1
  exact ⟨I1, FM_r, b3⟩
theorem u_5 (h : uG L xs I J) : ∃ a, uA L xs I J 97 170 [.int x] (.int a) := by
  obtain ⟨s, t, b, A, n, R, m, S, Z, T, W, H, Y, r, D, hC, hM, hN, hX⟩ := h
  have a3 := k97 (d := 996) (J := J) (x := x) hC.1 hN.1
  refine ⟨_, uW (s' := tr_end s x) hC hM hN hX (W_end hN.1) (hiS_end hN.1) a3 fun I1 J1 hM1 => ?_⟩
  have e := hM1.1
  subst e
  have b3 := m170 (d := 996) (J := J1) (I := I1) (x := x) hN.1 fun p hp h6 hE => WF_end hN.1 hp h6 hE
  exact ⟨I1, FM_r, b3⟩
theorem u_12 (h : uG L xs I J) : ∃ a, uA L xs I J 104 202 [.int x, .int y, .int z] (.int a) := by
  obtain ⟨s, t, b, A, n, R, m, S, Z, T, W, H, Y, r, D, hC, hM, hN, hX⟩ := h
  have a3 := k104 (d := 997) (J := J) (x := x) (y := y) (z := z) hC.1 hN.1
  refine ⟨_, uW (s' := tr_claim s x y z) hC hM hN hX (W_claim hN.1) hiS_claim a3 fun I1 J1 hM1 => ?_⟩
  have e := hM1.1
  subst e
  have b3 := m202 (d := 997) (J := J1) (I := I1) (x := x) (y := y) (z := z) hN.1
  exact ⟨I1, FM_r, b3⟩
theorem u_16 (h : uG L xs I J) : ∃ a, uA L xs I J 108 215 [.int x] (.int a) := by
  obtain ⟨s, t, b, A, n, R, m, S, Z, T, W, H, Y, r, D, hC, hM, hN, hX⟩ := h
  have a3 := k108 (d := 997) (J := J) (x := x) hC.1 hN.1
  refine ⟨_, uW (s' := tr_deed s x) hC hM hN hX (W_deed hN.1) hiS_deed a3 fun I1 J1 hM1 => ?_⟩
  have e := hM1.1
  subst e
  have b3 := m215 (d := 997) (J := J1) (I := I1) (x := x) hN.1
  exact ⟨I1, FM_r, b3⟩
theorem u_19 (h : uG L xs I J) : ∃ a, uA L xs I J 111 228 [.int x, .int y] (.int a) := by
  obtain ⟨s, t, b, A, n, R, m, S, Z, T, W, H, Y, r, D, hC, hM, hN, hX⟩ := h
  have a3 := k111 (d := 992) (J := J) (x := x) (y := y) hC.1 hN.1
  refine ⟨_, uW (s' := tr_wedq s x y) hC hM hN hX (W_wed hN.1) hiS_wed a3 fun I1 J1 hM1 => ?_⟩
  have e := hM1.1
  subst e
  exact m228 (d := 990) (J := J1) (I := I1) (x := x) (y := y) hN.1
theorem u_27 (h : uG L xs I J) : ∃ a, uA L xs I J 120 239 [.int x] (.int a) := by
  obtain ⟨s, t, b, A, n, R, m, S, Z, T, W, H, Y, r, D, hC, hM, hN, hX⟩ := h
  have a3 := k120 (d := 999) (J := J) (x := x) hC.1 hN.1
  refine ⟨_, uW (s' := rset s 7 x) hC hM hN hX (WF_seed hN.1) (hiS_s hiS_r (by decide)) a3 fun I1 J1 hM1 => ?_⟩
  have e := hM1.1
  subst e
  have b3 := m239 (d := 999) (J := J1) (I := I1) (x := x) 
  exact ⟨I1, FM_r, b3⟩
theorem u_28 (h : uG L xs I J) : ∃ a, uA L xs I J 121 240 [] (.int a) := by
  obtain ⟨s, t, b, A, n, R, m, S, Z, T, W, H, Y, r, D, hC, hM, hN, hX⟩ := h
  have a3 := k121 (d := 997) (J := J)  hC.1 hN.1
  refine ⟨_, uW (s' := tr_call s) hC hM hN hX ((W_call hN.1).1) (W_call hN.1).2 a3 fun I1 J1 hM1 => ?_⟩
  have e := hM1.1
  subst e
  have b3 := m240 (d := 996) (J := J1) (I := I1)  hN.1
  exact ⟨I1, FM_r, b3⟩
theorem u_36 (h : uG L xs I J) : ∃ a, uA L xs I J 131 251 [.int x, .int y, .int z, .int w] (.int a) := by
  obtain ⟨s, t, b, A, n, R, m, S, Z, T, W, H, Y, r, D, hC, hM, hN, hX⟩ := h
  have a3 := k131 (d := 996) (J := J) (x := x) (y := y) (z := z) (w := w) hN.2.2.2.2 hC.2.2.2.2.1 hC.1 hN.1
  refine ⟨_, uW (s' := (v_debts s S Z T x y z w).1) hC hM hN hX (W_debts hN.1) (hiS_debts) a3 fun I1 J1 hM1 => ?_⟩
  have e := hM1.1
  subst e
  have b3 := m251 (d := 996) (J := J1) (I := I1) (x := x) (y := y) (z := z) (w := w) hN.2.2.2.2 hM1.2.2.2.2.1 hN.1
  exact ⟨I1, FM_r, b3⟩
end K3s
