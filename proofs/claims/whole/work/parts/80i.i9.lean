/-! ===== act: bodies ===== -/
abbrev As : Type := Nat × (Nat → Int32) × Int32
def aR (b : Nat) (st : As) : As := if st.1 < 30 then (st.1 + 1, upA st.2.1 st.1 (nI b), st.2.2) else st
def fAB (a x : Int32) (st : As) : Int32 × As := (x + a, aR 10 st)
def fCB (a x : Int32) (st : As) : Int32 × As := ((fAB a x (aR 30 st)).1 * nI 3, (fAB a x (aR 30 st)).2)
def fB (k : Nat) (n a x : Int32) (st : As) : Int32 × As := if k = 2 ∨ k = 5 then fCB a x st else if k = 3 then ((fCB a x (aR 40 st)).1 - n, (fCB a x (aR 40 st)).2) else if k = 7 then (a - x, aR 80 st) else fAB a x st
def fAK (k : Nat) (n a x : Int32) (st : As) : Int32 × As := ((fB k n a x (aR 11 st)).1 * nI 2, (fB k n a x (aR 11 st)).2)
def fK (k : Nat) (n a x : Int32) (st : As) : Int32 × As := if k = 1 then ((fAK k n a x (aR 20 st)).1 - nI 4, (fAK k n a x (aR 20 st)).2) else if k = 4 then ((fAK k n a x (aR 60 st)).1 ^^^ a, (fAK k n a x (aR 60 st)).2) else if k = 5 then (nI 0 - (fAK k n a x (aR 51 st)).1, (fAK k n a x (aR 51 st)).2) else if k = 7 then ((fB k n a x (aR 81 st)).1 * n, (fB k n a x (aR 81 st)).2) else fAK k n a x st
def fAS (n a x : Int32) (st : As) : Int32 × As := if a = n then (nI 0, ((aR 12 st).1, (aR 12 st).2.1, nI 1)) else (x / (a - n), aR 12 st)
def fS (k : Nat) (n a x : Int32) (st : As) : Int32 × As := if k = 5 then fAS n a (x + nI 1) (aR 50 st) else if k = 7 then (x ||| a, aR 82 st) else fAS n a x st
def fAT (k : Nat) (n a x : Int32) (st : As) : Int32 × As := ((fK k n a x (aR 13 st)).1 ^^^ n, (fK k n a x (aR 13 st)).2)
def fT (k : Nat) (n a x : Int32) (st : As) : Int32 × As := if k = 2 ∨ k = 3 ∨ k = 5 then ((fAT k n a x (aR 31 st)).1 + (fS k n a n (fAT k n a x (aR 31 st)).2).1, (fS k n a n (fAT k n a x (aR 31 st)).2).2) else if k = 6 then ((fAT k n a x (aR 70 st)).1 * nI 2, (fAT k n a x (aR 70 st)).2) else if k = 7 then ((fK k n a x (aR 83 st)).1 - (fS k n a n (fK k n a x (aR 83 st)).2).1, (fS k n a n (fK k n a x (aR 83 st)).2).2) else fAT k n a x st
def FX (L : Nat) (xs : Nat → Int32) (I : mI) : Prop := ∀ a, 2000000 ≤ a → I a = am_i (am_S00 L xs) a
abbrev FA (I' I : mI) : Prop := ∀ a, a ≠ 205 → a ≠ 206 → I' a = I a
def AC (I : mI) (k : Nat) (n a : Int32) (st : As) : Prop := I 205 2 = nI k ∧ I 205 3 = n ∧ I 205 4 = a ∧ I 205 1 = nI st.1 ∧ st.1 ≤ 30 ∧ (∀ j, j < st.1 → I 206 j = st.2.1 j) ∧ I 205 5 = st.2.2 ∧ (¬ a = n → st.2.2 = nI 0)
def CR (k : Nat) (n a : Int32) (b c m : Nat) (F : Int32 → As → Int32 × As) : Prop := ∀ (L : Nat) (xs : Nat → Int32) (I : mI) (J : mJ) (d dp : Nat) (x : Int32) (st : As), FX L xs I → AC I k n a st → dp + m ≤ 20 → ∃ I', FA I' I ∧ AC I' k n a (F x st).2 ∧ am_cal (d + c) 3 [.ref 205, .int (nI b), .int x, .int (nI dp)] (mS I J) = some (some (.int (F x st).1), mS I' J)
def tE (j k : Nat) : Nat := ([[10, 10, 30, 40, 10, 30, 10, 80], [11, 20, 11, 11, 60, 51, 11, 81], [12, 12, 12, 12, 12, 50, 12, 82], [13, 13, 31, 31, 13, 31, 70, 83]].getD j []).getD k 0
section I9s
variable {I I' : mI} {J : mJ} {k b d dp L : Nat} {n a x y z : Int32} {st : As} {xs : Nat → Int32}
theorem FX.t {j : Nat} (h : FX L xs I) (hj : j < 4) (hk : k < 8) : I (2000000 + j) k = nI (tE j k) := by
  rw [h (2000000 + j) (by omega)]
  rcases (show j = 0 ∨ j = 1 ∨ j = 2 ∨ j = 3 by omega) with rfl | rfl | rfl | rfl
  all_goals
    rcases (show k = 0 ∨ k = 1 ∨ k = 2 ∨ k = 3 ∨ k = 4 ∨ k = 5 ∨ k = 6 ∨ k = 7 by omega) with rfl | rfl | rfl | rfl | rfl | rfl | rfl | rfl
  all_goals first | rfl | decide
theorem FX.ln {j : Nat} (h : FX L xs I) (hj : j < 4) : I (3000000 + j) 0 = nI 8 := by
  rw [h (3000000 + j) (by omega)]
  rcases (show j = 0 ∨ j = 1 ∨ j = 2 ∨ j = 3 by omega) with rfl | rfl | rfl | rfl
  all_goals rfl
theorem FX.fa (h : FX L xs I) (hf : FA I' I) : FX L xs I' := fun a ha => by rw [hf a (by omega) (by omega)]; exact h a ha
theorem FA.tr {I1 : mI} (h : FA I' I1) (h2 : FA I1 I) : FA I' I := fun a b c => (h a b c).trans (h2 a b c)
theorem c3 (hA : AC I k n a st) (hd : dp ≤ 20) : ∃ I', FA I' I ∧ AC I' k n a (aR b st) ∧ am_cal (d + 1) 3 [.ref 205, .int (nI b), .int x, .int (nI dp)] (mS I J) = am_X (am_cal d) 3 23 [.ref 205, .int (nI b), .int x, .int (nI dp), .null] [] (mS I' J) := by
  obtain ⟨h2, h3, h4, h1, hr, hT, h5, hz⟩ := hA
  have hl : ¬ nI 20 < nI dp := by rw [n_lt (by decide) (by omega)]; omega
  have o1 : (100 ≤ 100 ∧ 100 < 200) = True := eq_true (by decide)
  unfold aR
  by_cases hh : st.1 < 30
  · rw [if_pos hh]
    have i0c : (nI (st.1)).toNatClampNeg = st.1 := nI_clamp (by omega)
    have i0z : (nI (st.1) < 0) = False := n_ge0 (by omega)
    have i0l : (30 ≤ st.1) = False := n_lef (by omega)
    refine ⟨wI (wI I 206 st.1 (nI b)) 205 1 (nI (st.1 + 1)), fun c h h' => by rw [wI_F1 c h, wI_F1 c h'], ⟨?_, ?_, ?_, ?_, by omega, fun j hj => ?_, ?_, hz⟩, ?_⟩
    · rw [wI_nk (by decide), wI_ne (by decide)]; exact h2
    · rw [wI_nk (by decide), wI_ne (by decide)]; exact h3
    · rw [wI_nk (by decide), wI_ne (by decide)]; exact h4
    · rw [wI_eq]
    · rw [wI_ne (by decide)]
      by_cases e : j = st.1
      · subst e; rw [wI_eq]; exact upA_eq.symm
      · rw [wI_nk e]
        exact (hT j (by have : j < st.1 + 1 := hj; omega)).trans (upA_ne e).symm
    · rw [wI_nk (by decide), wI_ne (by decide)]; exact h5
    · have g1 : wI I 206 st.1 (nI b) 205 1 = nI st.1 := by rw [wI_ne (by decide)]; exact h1
      rw [c_3 lc_205, if_neg hl]
      simp only [lc_205, lr_205_0, lc_206, ll_206, h1, g1, o1, n_lt (show st.1 < 2 ^ 31 by omega) (show 30 < 2 ^ 31 by decide), eq_true hh, i0c, i0z, i0l, nI_add, bq_s, mS_c, mS_l, mS_r, mS_i, mS_j, mS_pi, mS_pj, lt_st, bq_s, bV_s, bI_s, bJ_s, bA_s, nz_0, nc_0, nz_1, nc_1, nz_2, nc_2, nz_3, nc_3, nz_4, nc_4, nz_5, nc_5, nz_6, nc_6, nz_7, nc_7, nz_8, nc_8, nz_9, nc_9, nz_10, nc_10, nz_11, nc_11, nz_12, nc_12, if_true, if_false, eq_self, true_and, and_true, false_or, or_false, true_or, or_true, false_and, and_false, not_true, not_false_eq_true, ne_eq, ite_self, ite_not, ↓reduceIte, n_101, n_107, n_11]
  · rw [if_neg hh]
    refine ⟨I, fun _ _ _ => rfl, ⟨h2, h3, h4, h1, hr, hT, h5, hz⟩, ?_⟩
    rw [c_3 lc_205, if_neg hl]
    simp only [lc_205, lr_205_0, lc_206, ll_206, h1, o1, n_lt (show st.1 < 2 ^ 31 by omega) (show 30 < 2 ^ 31 by decide), eq_false hh, bq_s, mS_c, mS_l, mS_r, mS_i, mS_j, mS_pi, mS_pj, lt_st, bq_s, bV_s, bI_s, bJ_s, bA_s, nz_0, nc_0, nz_1, nc_1, nz_2, nc_2, nz_3, nc_3, nz_4, nc_4, nz_5, nc_5, nz_6, nc_6, nz_7, nc_7, nz_8, nc_8, nz_9, nc_9, nz_10, nc_10, nz_11, nc_11, nz_12, nc_12, if_true, if_false, eq_self, true_and, and_true, false_or, or_false, true_or, or_true, false_and, and_false, not_true, not_false_eq_true, ne_eq, ite_self, ite_not, ↓reduceIte, n_101, n_107, n_11]

theorem r10 : CR k n a 10 1 0 (fAB a) := by
  intro L xs I J d dp x st hX hA hd
  obtain ⟨I1, a1, a2, a3⟩ := c3 (b := 10) (d := d + 0) (J := J) (x := x) (dp := dp) hA (by omega)
  have hX1 := hX.fa a1
  obtain ⟨g2, g3, g4, g1, gr, gT, g5, gz⟩ := id a2
  rw [show d + 1 = d + 0 + 1 from rfl, a3, e_3_23, if_pos rfl]
  rw [if_pos lc_205, g4]
  exact ⟨I1, a1, a2, rfl⟩
theorem r80 : CR k n a 80 1 0 (fun x st => (a - x, aR 80 st)) := by
  intro L xs I J d dp x st hX hA hd
  obtain ⟨I1, a1, a2, a3⟩ := c3 (b := 80) (d := d + 0) (J := J) (x := x) (dp := dp) hA (by omega)
  have hX1 := hX.fa a1
  obtain ⟨g2, g3, g4, g1, gr, gT, g5, gz⟩ := id a2
  rw [show d + 1 = d + 0 + 1 from rfl, a3, e_3_23, if_neg (by decide), if_neg (by decide), if_neg (by decide), if_neg (by decide), if_neg (by decide), if_neg (by decide), if_neg (by decide), if_neg (by decide), if_neg (by decide), if_neg (by decide), if_neg (by decide), if_neg (by decide), if_pos rfl]
  rw [if_pos lc_205, g4]
  exact ⟨I1, a1, a2, rfl⟩
theorem r82 : CR k n a 82 1 0 (fun x st => (x ||| a, aR 82 st)) := by
  intro L xs I J d dp x st hX hA hd
  obtain ⟨I1, a1, a2, a3⟩ := c3 (b := 82) (d := d + 0) (J := J) (x := x) (dp := dp) hA (by omega)
  have hX1 := hX.fa a1
  obtain ⟨g2, g3, g4, g1, gr, gT, g5, gz⟩ := id a2
  rw [show d + 1 = d + 0 + 1 from rfl, a3, e_3_23, if_neg (by decide), if_neg (by decide), if_neg (by decide), if_neg (by decide), if_neg (by decide), if_neg (by decide), if_neg (by decide), if_neg (by decide), if_neg (by decide), if_neg (by decide), if_neg (by decide), if_neg (by decide), if_neg (by decide), if_neg (by decide), if_pos rfl]
  rw [if_pos lc_205, g4]
  exact ⟨I1, a1, a2, rfl⟩
theorem r12 : CR k n a 12 2 0 (fAS n a) := by
  intro L xs I J d dp x st hX hA hd
  obtain ⟨I1, a1, a2, a3⟩ := c3 (b := 12) (d := d + 1) (J := J) (x := x) (dp := dp) hA (by omega)
  have hX1 := hX.fa a1
  obtain ⟨g2, g3, g4, g1, gr, gT, g5, gz⟩ := id a2
  rw [show d + 2 = d + 1 + 1 from rfl, a3, e_3_23, if_neg (by decide), if_neg (by decide), if_pos rfl]
  rw [c_4 lc_205]
  unfold fAS
  by_cases e : a = n
  · rw [if_pos e]
    refine ⟨wI I1 205 5 (nI 1), fun c h h' => by rw [wI_F1 c h]; exact a1 c h h', ⟨?_, ?_, ?_, ?_, gr, ?_, ?_, fun h => absurd e h⟩, ?_⟩
    · rw [wI_nk (by decide)]; exact g2
    · rw [wI_nk (by decide)]; exact g3
    · rw [wI_nk (by decide)]; exact g4
    · rw [wI_nk (by decide)]; exact g1
    · intro j hj; rw [wI_ne (by decide)]; exact gT j hj
    · rw [wI_eq]
    · simp only [lc_205, g3, g4, eq_true e, bq_s, mS_c, mS_l, mS_r, mS_i, mS_j, mS_pi, mS_pj, lt_st, bq_s, bV_s, bI_s, bJ_s, bA_s, nz_0, nc_0, nz_1, nc_1, nz_2, nc_2, nz_3, nc_3, nz_4, nc_4, nz_5, nc_5, nz_6, nc_6, nz_7, nc_7, nz_8, nc_8, nz_9, nc_9, nz_10, nc_10, nz_11, nc_11, nz_12, nc_12, if_true, if_false, eq_self, true_and, and_true, false_or, or_false, true_or, or_true, false_and, and_false, not_true, not_false_eq_true, ne_eq, ite_self, ite_not, ↓reduceIte, n_101, n_107, n_11]
  · rw [if_neg e]
    have e2 : ¬ a - n = 0 := fun h => e (by
      have h1 : a = (a - n) + n := (Int32.sub_add_cancel a n).symm
      rw [h, Int32.zero_add] at h1
      exact h1)
    refine ⟨I1, a1, a2, ?_⟩
    simp only [lc_205, g3, g4, eq_false e, eq_false e2, bq_s, mS_c, mS_l, mS_r, mS_i, mS_j, mS_pi, mS_pj, lt_st, bq_s, bV_s, bI_s, bJ_s, bA_s, nz_0, nc_0, nz_1, nc_1, nz_2, nc_2, nz_3, nc_3, nz_4, nc_4, nz_5, nc_5, nz_6, nc_6, nz_7, nc_7, nz_8, nc_8, nz_9, nc_9, nz_10, nc_10, nz_11, nc_11, nz_12, nc_12, if_true, if_false, eq_self, true_and, and_true, false_or, or_false, true_or, or_true, false_and, and_false, not_true, not_false_eq_true, ne_eq, ite_self, ite_not, ↓reduceIte, n_101, n_107, n_11]
theorem r30 : CR k n a 30 2 1 (fCB a) := by
  intro L xs I J d dp x st hX hA hd
  obtain ⟨I1, a1, a2, a3⟩ := c3 (b := 30) (d := d + 1) (J := J) (x := x) (dp := dp) hA (by omega)
  have hX1 := hX.fa a1
  obtain ⟨g2, g3, g4, g1, gr, gT, g5, gz⟩ := id a2
  rw [show d + 2 = d + 1 + 1 from rfl, a3, e_3_23, if_neg (by decide), if_neg (by decide), if_neg (by decide), if_neg (by decide), if_neg (by decide), if_pos rfl]
  obtain ⟨I2, b1, b2, b3⟩ := r10 L xs I1 J d (dp + 1) (x) (aR 30 st) hX1 a2 (by omega)
  obtain ⟨k2, k3, k4, k1, kr, kT, k5, kz⟩ := id b2
  refine ⟨I2, b1.tr a1, b2, ?_⟩
  rw [nI_add, b3]
  simp only [lc_205, bq_s, mS_c, mS_l, mS_r, mS_i, mS_j, mS_pi, mS_pj, lt_st, bq_s, bV_s, bI_s, bJ_s, bA_s, nz_0, nc_0, nz_1, nc_1, nz_2, nc_2, nz_3, nc_3, nz_4, nc_4, nz_5, nc_5, nz_6, nc_6, nz_7, nc_7, nz_8, nc_8, nz_9, nc_9, nz_10, nc_10, nz_11, nc_11, nz_12, nc_12, if_true, if_false, eq_self, true_and, and_true, false_or, or_false, true_or, or_true, false_and, and_false, not_true, not_false_eq_true, ne_eq, ite_self, ite_not, ↓reduceIte, n_101, n_107, n_11]
  rfl
theorem r40 : CR k n a 40 3 2 (fun x st => ((fCB a x (aR 40 st)).1 - n, (fCB a x (aR 40 st)).2)) := by
  intro L xs I J d dp x st hX hA hd
  obtain ⟨I1, a1, a2, a3⟩ := c3 (b := 40) (d := d + 2) (J := J) (x := x) (dp := dp) hA (by omega)
  have hX1 := hX.fa a1
  obtain ⟨g2, g3, g4, g1, gr, gT, g5, gz⟩ := id a2
  rw [show d + 3 = d + 2 + 1 from rfl, a3, e_3_23, if_neg (by decide), if_neg (by decide), if_neg (by decide), if_neg (by decide), if_neg (by decide), if_neg (by decide), if_neg (by decide), if_pos rfl]
  obtain ⟨I2, b1, b2, b3⟩ := r30 L xs I1 J d (dp + 1) (x) (aR 40 st) hX1 a2 (by omega)
  obtain ⟨k2, k3, k4, k1, kr, kT, k5, kz⟩ := id b2
  refine ⟨I2, b1.tr a1, b2, ?_⟩
  rw [nI_add, b3]
  simp only [lc_205, k3, bq_s, mS_c, mS_l, mS_r, mS_i, mS_j, mS_pi, mS_pj, lt_st, bq_s, bV_s, bI_s, bJ_s, bA_s, nz_0, nc_0, nz_1, nc_1, nz_2, nc_2, nz_3, nc_3, nz_4, nc_4, nz_5, nc_5, nz_6, nc_6, nz_7, nc_7, nz_8, nc_8, nz_9, nc_9, nz_10, nc_10, nz_11, nc_11, nz_12, nc_12, if_true, if_false, eq_self, true_and, and_true, false_or, or_false, true_or, or_true, false_and, and_false, not_true, not_false_eq_true, ne_eq, ite_self, ite_not, ↓reduceIte, n_101, n_107, n_11]
theorem rB (hk1 : 1 ≤ k) (hk : k ≤ 7) : CR k n a (tE 0 k) 3 2 (fB k n a) := by
  intro L xs I J d dp x st hX hA hd
  rcases (show k = 1 ∨ k = 2 ∨ k = 3 ∨ k = 4 ∨ k = 5 ∨ k = 6 ∨ k = 7 by omega) with rfl | rfl | rfl | rfl | rfl | rfl | rfl
  · exact r10 L xs I J (d + 2) dp x st hX hA (by omega)
  · exact r30 L xs I J (d + 1) dp x st hX hA (by omega)
  · exact r40 L xs I J d dp x st hX hA (by omega)
  · exact r10 L xs I J (d + 2) dp x st hX hA (by omega)
  · exact r30 L xs I J (d + 1) dp x st hX hA (by omega)
  · exact r10 L xs I J (d + 2) dp x st hX hA (by omega)
  · exact r80 L xs I J (d + 2) dp x st hX hA (by omega)
theorem r11 (hk1 : 1 ≤ k) (hk : k ≤ 7) : CR k n a 11 4 3 (fAK k n a) := by
  intro L xs I J d dp x st hX hA hd
  obtain ⟨I1, a1, a2, a3⟩ := c3 (b := 11) (d := d + 3) (J := J) (x := x) (dp := dp) hA (by omega)
  have hX1 := hX.fa a1
  obtain ⟨g2, g3, g4, g1, gr, gT, g5, gz⟩ := id a2
  rw [show d + 4 = d + 3 + 1 from rfl, a3, e_3_23, if_neg (by decide), if_pos rfl]
  have i0c : (nI (k)).toNatClampNeg = k := nI_clamp (by omega)
  have i0z : (nI (k) < 0) = False := n_ge0 (by omega)
  have i0l : (8 ≤ k) = False := n_lef (by omega)
  obtain ⟨I2, b1, b2, b3⟩ := rB hk1 hk L xs I1 J d (dp + 1) x (aR 11 st) hX1 a2 (by omega)
  obtain ⟨k2, k3, k4, k1, kr, kT, k5, kz⟩ := id b2
  refine ⟨I2, b1.tr a1, b2, ?_⟩
  have t0 : I1 2000000 k = nI (tE 0 k) := hX1.t (j := 0) (by decide) (by omega)
  have t1 : I1 3000000 0 = nI 8 := hX1.ln (j := 0) (by decide)
  have t2 : lyC 2000000 = 998 := lx_row (j := 0) (by decide)
  have t3 : (nI 8).toNatClampNeg = 8 := nI_clamp (by decide)
  simp only [lc_205, g2, t0, t1, t2, t3, i0c, i0z, i0l, nI_add, b3, bq_s, mS_c, mS_l, mS_r, mS_i, mS_j, mS_pi, mS_pj, lt_st, bq_s, bV_s, bI_s, bJ_s, bA_s, nz_0, nc_0, nz_1, nc_1, nz_2, nc_2, nz_3, nc_3, nz_4, nc_4, nz_5, nc_5, nz_6, nc_6, nz_7, nc_7, nz_8, nc_8, nz_9, nc_9, nz_10, nc_10, nz_11, nc_11, nz_12, nc_12, if_true, if_false, eq_self, true_and, and_true, false_or, or_false, true_or, or_true, false_and, and_false, not_true, not_false_eq_true, ne_eq, ite_self, ite_not, ↓reduceIte, n_101, n_107, n_11]
  rfl
theorem r81 (hk1 : 1 ≤ k) (hk : k ≤ 7) : CR k n a 81 4 3 (fun x st => ((fB k n a x (aR 81 st)).1 * n, (fB k n a x (aR 81 st)).2)) := by
  intro L xs I J d dp x st hX hA hd
  obtain ⟨I1, a1, a2, a3⟩ := c3 (b := 81) (d := d + 3) (J := J) (x := x) (dp := dp) hA (by omega)
  have hX1 := hX.fa a1
  obtain ⟨g2, g3, g4, g1, gr, gT, g5, gz⟩ := id a2
  rw [show d + 4 = d + 3 + 1 from rfl, a3, e_3_23, if_neg (by decide), if_neg (by decide), if_neg (by decide), if_neg (by decide), if_neg (by decide), if_neg (by decide), if_neg (by decide), if_neg (by decide), if_neg (by decide), if_neg (by decide), if_neg (by decide), if_neg (by decide), if_neg (by decide), if_pos rfl]
  have i0c : (nI (k)).toNatClampNeg = k := nI_clamp (by omega)
  have i0z : (nI (k) < 0) = False := n_ge0 (by omega)
  have i0l : (8 ≤ k) = False := n_lef (by omega)
  obtain ⟨I2, b1, b2, b3⟩ := rB hk1 hk L xs I1 J d (dp + 1) x (aR 81 st) hX1 a2 (by omega)
  obtain ⟨k2, k3, k4, k1, kr, kT, k5, kz⟩ := id b2
  refine ⟨I2, b1.tr a1, b2, ?_⟩
  have t0 : I1 2000000 k = nI (tE 0 k) := hX1.t (j := 0) (by decide) (by omega)
  have t1 : I1 3000000 0 = nI 8 := hX1.ln (j := 0) (by decide)
  have t2 : lyC 2000000 = 998 := lx_row (j := 0) (by decide)
  have t3 : (nI 8).toNatClampNeg = 8 := nI_clamp (by decide)
  simp only [lc_205, g2, t0, t1, t2, t3, i0c, i0z, i0l, nI_add, b3, k3, bq_s, mS_c, mS_l, mS_r, mS_i, mS_j, mS_pi, mS_pj, lt_st, bq_s, bV_s, bI_s, bJ_s, bA_s, nz_0, nc_0, nz_1, nc_1, nz_2, nc_2, nz_3, nc_3, nz_4, nc_4, nz_5, nc_5, nz_6, nc_6, nz_7, nc_7, nz_8, nc_8, nz_9, nc_9, nz_10, nc_10, nz_11, nc_11, nz_12, nc_12, if_true, if_false, eq_self, true_and, and_true, false_or, or_false, true_or, or_true, false_and, and_false, not_true, not_false_eq_true, ne_eq, ite_self, ite_not, ↓reduceIte, n_101, n_107, n_11]
theorem r20 (hk1 : 1 ≤ k) (hk : k ≤ 7) : CR k n a 20 5 4 (fun x st => ((fAK k n a x (aR 20 st)).1 - nI 4, (fAK k n a x (aR 20 st)).2)) := by
  intro L xs I J d dp x st hX hA hd
  obtain ⟨I1, a1, a2, a3⟩ := c3 (b := 20) (d := d + 4) (J := J) (x := x) (dp := dp) hA (by omega)
  have hX1 := hX.fa a1
  obtain ⟨g2, g3, g4, g1, gr, gT, g5, gz⟩ := id a2
  rw [show d + 5 = d + 4 + 1 from rfl, a3, e_3_23, if_neg (by decide), if_neg (by decide), if_neg (by decide), if_neg (by decide), if_pos rfl]
  obtain ⟨I2, b1, b2, b3⟩ := r11 hk1 hk L xs I1 J d (dp + 1) x (aR 20 st) hX1 a2 (by omega)
  obtain ⟨k2, k3, k4, k1, kr, kT, k5, kz⟩ := id b2
  refine ⟨I2, b1.tr a1, b2, ?_⟩
  rw [nI_add, b3]
  simp only [lc_205, bq_s, mS_c, mS_l, mS_r, mS_i, mS_j, mS_pi, mS_pj, lt_st, bq_s, bV_s, bI_s, bJ_s, bA_s, nz_0, nc_0, nz_1, nc_1, nz_2, nc_2, nz_3, nc_3, nz_4, nc_4, nz_5, nc_5, nz_6, nc_6, nz_7, nc_7, nz_8, nc_8, nz_9, nc_9, nz_10, nc_10, nz_11, nc_11, nz_12, nc_12, if_true, if_false, eq_self, true_and, and_true, false_or, or_false, true_or, or_true, false_and, and_false, not_true, not_false_eq_true, ne_eq, ite_self, ite_not, ↓reduceIte, n_101, n_107, n_11]
theorem r60 (hk1 : 1 ≤ k) (hk : k ≤ 7) : CR k n a 60 5 4 (fun x st => ((fAK k n a x (aR 60 st)).1 ^^^ a, (fAK k n a x (aR 60 st)).2)) := by
  intro L xs I J d dp x st hX hA hd
  obtain ⟨I1, a1, a2, a3⟩ := c3 (b := 60) (d := d + 4) (J := J) (x := x) (dp := dp) hA (by omega)
  have hX1 := hX.fa a1
  obtain ⟨g2, g3, g4, g1, gr, gT, g5, gz⟩ := id a2
  rw [show d + 5 = d + 4 + 1 from rfl, a3, e_3_23, if_neg (by decide), if_neg (by decide), if_neg (by decide), if_neg (by decide), if_neg (by decide), if_neg (by decide), if_neg (by decide), if_neg (by decide), if_neg (by decide), if_neg (by decide), if_pos rfl]
  obtain ⟨I2, b1, b2, b3⟩ := r11 hk1 hk L xs I1 J d (dp + 1) x (aR 60 st) hX1 a2 (by omega)
  obtain ⟨k2, k3, k4, k1, kr, kT, k5, kz⟩ := id b2
  refine ⟨I2, b1.tr a1, b2, ?_⟩
  rw [nI_add, b3]
  simp only [lc_205, k4, bq_s, mS_c, mS_l, mS_r, mS_i, mS_j, mS_pi, mS_pj, lt_st, bq_s, bV_s, bI_s, bJ_s, bA_s, nz_0, nc_0, nz_1, nc_1, nz_2, nc_2, nz_3, nc_3, nz_4, nc_4, nz_5, nc_5, nz_6, nc_6, nz_7, nc_7, nz_8, nc_8, nz_9, nc_9, nz_10, nc_10, nz_11, nc_11, nz_12, nc_12, if_true, if_false, eq_self, true_and, and_true, false_or, or_false, true_or, or_true, false_and, and_false, not_true, not_false_eq_true, ne_eq, ite_self, ite_not, ↓reduceIte, n_101, n_107, n_11]
theorem r51 (hk1 : 1 ≤ k) (hk : k ≤ 7) : CR k n a 51 5 4 (fun x st => (nI 0 - (fAK k n a x (aR 51 st)).1, (fAK k n a x (aR 51 st)).2)) := by
  intro L xs I J d dp x st hX hA hd
  obtain ⟨I1, a1, a2, a3⟩ := c3 (b := 51) (d := d + 4) (J := J) (x := x) (dp := dp) hA (by omega)
  have hX1 := hX.fa a1
  obtain ⟨g2, g3, g4, g1, gr, gT, g5, gz⟩ := id a2
  rw [show d + 5 = d + 4 + 1 from rfl, a3, e_3_23, if_neg (by decide), if_neg (by decide), if_neg (by decide), if_neg (by decide), if_neg (by decide), if_neg (by decide), if_neg (by decide), if_neg (by decide), if_neg (by decide), if_pos rfl]
  obtain ⟨I2, b1, b2, b3⟩ := r11 hk1 hk L xs I1 J d (dp + 1) x (aR 51 st) hX1 a2 (by omega)
  obtain ⟨k2, k3, k4, k1, kr, kT, k5, kz⟩ := id b2
  refine ⟨I2, b1.tr a1, b2, ?_⟩
  rw [nI_add, b3]
  simp only [lc_205, bq_s, mS_c, mS_l, mS_r, mS_i, mS_j, mS_pi, mS_pj, lt_st, bq_s, bV_s, bI_s, bJ_s, bA_s, nz_0, nc_0, nz_1, nc_1, nz_2, nc_2, nz_3, nc_3, nz_4, nc_4, nz_5, nc_5, nz_6, nc_6, nz_7, nc_7, nz_8, nc_8, nz_9, nc_9, nz_10, nc_10, nz_11, nc_11, nz_12, nc_12, if_true, if_false, eq_self, true_and, and_true, false_or, or_false, true_or, or_true, false_and, and_false, not_true, not_false_eq_true, ne_eq, ite_self, ite_not, ↓reduceIte, n_101, n_107, n_11]
theorem rK (hk1 : 1 ≤ k) (hk : k ≤ 7) : CR k n a (tE 1 k) 5 4 (fK k n a) := by
  intro L xs I J d dp x st hX hA hd
  rcases (show k = 1 ∨ k = 2 ∨ k = 3 ∨ k = 4 ∨ k = 5 ∨ k = 6 ∨ k = 7 by omega) with rfl | rfl | rfl | rfl | rfl | rfl | rfl
  · exact r20 hk1 hk L xs I J d dp x st hX hA (by omega)
  · exact r11 hk1 hk L xs I J (d + 1) dp x st hX hA (by omega)
  · exact r11 hk1 hk L xs I J (d + 1) dp x st hX hA (by omega)
  · exact r60 hk1 hk L xs I J d dp x st hX hA (by omega)
  · exact r51 hk1 hk L xs I J d dp x st hX hA (by omega)
  · exact r11 hk1 hk L xs I J (d + 1) dp x st hX hA (by omega)
  · exact r81 hk1 hk L xs I J (d + 1) dp x st hX hA (by omega)
theorem r50 : CR k n a 50 3 1 (fun x st => fAS n a (x + nI 1) (aR 50 st)) := by
  intro L xs I J d dp x st hX hA hd
  obtain ⟨I1, a1, a2, a3⟩ := c3 (b := 50) (d := d + 2) (J := J) (x := x) (dp := dp) hA (by omega)
  have hX1 := hX.fa a1
  obtain ⟨g2, g3, g4, g1, gr, gT, g5, gz⟩ := id a2
  rw [show d + 3 = d + 2 + 1 from rfl, a3, e_3_23, if_neg (by decide), if_neg (by decide), if_neg (by decide), if_neg (by decide), if_neg (by decide), if_neg (by decide), if_neg (by decide), if_neg (by decide), if_pos rfl]
  obtain ⟨I2, b1, b2, b3⟩ := r12 L xs I1 J d (dp + 1) (x + nI 1) (aR 50 st) hX1 a2 (by omega)
  obtain ⟨k2, k3, k4, k1, kr, kT, k5, kz⟩ := id b2
  refine ⟨I2, b1.tr a1, b2, ?_⟩
  rw [nI_add, b3]
  simp only [lc_205, bq_s, mS_c, mS_l, mS_r, mS_i, mS_j, mS_pi, mS_pj, lt_st, bq_s, bV_s, bI_s, bJ_s, bA_s, nz_0, nc_0, nz_1, nc_1, nz_2, nc_2, nz_3, nc_3, nz_4, nc_4, nz_5, nc_5, nz_6, nc_6, nz_7, nc_7, nz_8, nc_8, nz_9, nc_9, nz_10, nc_10, nz_11, nc_11, nz_12, nc_12, if_true, if_false, eq_self, true_and, and_true, false_or, or_false, true_or, or_true, false_and, and_false, not_true, not_false_eq_true, ne_eq, ite_self, ite_not, ↓reduceIte, n_101, n_107, n_11]
theorem rS (hk1 : 1 ≤ k) (hk : k ≤ 7) : CR k n a (tE 2 k) 3 1 (fS k n a) := by
  intro L xs I J d dp x st hX hA hd
  rcases (show k = 1 ∨ k = 2 ∨ k = 3 ∨ k = 4 ∨ k = 5 ∨ k = 6 ∨ k = 7 by omega) with rfl | rfl | rfl | rfl | rfl | rfl | rfl
  · exact r12 L xs I J (d + 1) dp x st hX hA (by omega)
  · exact r12 L xs I J (d + 1) dp x st hX hA (by omega)
  · exact r12 L xs I J (d + 1) dp x st hX hA (by omega)
  · exact r12 L xs I J (d + 1) dp x st hX hA (by omega)
  · exact r50 L xs I J d dp x st hX hA (by omega)
  · exact r12 L xs I J (d + 1) dp x st hX hA (by omega)
  · exact r82 L xs I J (d + 2) dp x st hX hA (by omega)
theorem r13 (hk1 : 1 ≤ k) (hk : k ≤ 7) : CR k n a 13 6 5 (fAT k n a) := by
  intro L xs I J d dp x st hX hA hd
  obtain ⟨I1, a1, a2, a3⟩ := c3 (b := 13) (d := d + 5) (J := J) (x := x) (dp := dp) hA (by omega)
  have hX1 := hX.fa a1
  obtain ⟨g2, g3, g4, g1, gr, gT, g5, gz⟩ := id a2
  rw [show d + 6 = d + 5 + 1 from rfl, a3, e_3_23, if_neg (by decide), if_neg (by decide), if_neg (by decide), if_pos rfl]
  have i0c : (nI (k)).toNatClampNeg = k := nI_clamp (by omega)
  have i0z : (nI (k) < 0) = False := n_ge0 (by omega)
  have i0l : (8 ≤ k) = False := n_lef (by omega)
  obtain ⟨I2, b1, b2, b3⟩ := rK hk1 hk L xs I1 J d (dp + 1) x (aR 13 st) hX1 a2 (by omega)
  obtain ⟨k2, k3, k4, k1, kr, kT, k5, kz⟩ := id b2
  refine ⟨I2, b1.tr a1, b2, ?_⟩
  have t0 : I1 2000001 k = nI (tE 1 k) := hX1.t (j := 1) (by decide) (by omega)
  have t1 : I1 3000001 0 = nI 8 := hX1.ln (j := 1) (by decide)
  have t2 : lyC 2000001 = 998 := lx_row (j := 1) (by decide)
  have t3 : (nI 8).toNatClampNeg = 8 := nI_clamp (by decide)
  simp only [lc_205, g2, t0, t1, t2, t3, i0c, i0z, i0l, nI_add, b3, k3, bq_s, mS_c, mS_l, mS_r, mS_i, mS_j, mS_pi, mS_pj, lt_st, bq_s, bV_s, bI_s, bJ_s, bA_s, nz_0, nc_0, nz_1, nc_1, nz_2, nc_2, nz_3, nc_3, nz_4, nc_4, nz_5, nc_5, nz_6, nc_6, nz_7, nc_7, nz_8, nc_8, nz_9, nc_9, nz_10, nc_10, nz_11, nc_11, nz_12, nc_12, if_true, if_false, eq_self, true_and, and_true, false_or, or_false, true_or, or_true, false_and, and_false, not_true, not_false_eq_true, ne_eq, ite_self, ite_not, ↓reduceIte, n_101, n_107, n_11]
  rfl
theorem r31 (hk1 : 1 ≤ k) (hk : k ≤ 7) : CR k n a 31 7 6 (fun x st => ((fAT k n a x (aR 31 st)).1 + (fS k n a n (fAT k n a x (aR 31 st)).2).1, (fS k n a n (fAT k n a x (aR 31 st)).2).2)) := by
  intro L xs I J d dp x st hX hA hd
  obtain ⟨I1, a1, a2, a3⟩ := c3 (b := 31) (d := d + 6) (J := J) (x := x) (dp := dp) hA (by omega)
  have hX1 := hX.fa a1
  obtain ⟨g2, g3, g4, g1, gr, gT, g5, gz⟩ := id a2
  rw [show d + 7 = d + 6 + 1 from rfl, a3, e_3_23, if_neg (by decide), if_neg (by decide), if_neg (by decide), if_neg (by decide), if_neg (by decide), if_neg (by decide), if_pos rfl]
  have i0c : (nI (k)).toNatClampNeg = k := nI_clamp (by omega)
  have i0z : (nI (k) < 0) = False := n_ge0 (by omega)
  have i0l : (8 ≤ k) = False := n_lef (by omega)
  obtain ⟨I2, b1, b2, b3⟩ := r13 hk1 hk L xs I1 J d (dp + 1) x (aR 31 st) hX1 a2 (by omega)
  have hX2 := hX1.fa b1
  obtain ⟨k2, k3, k4, k1, kr, kT, k5, kz⟩ := id b2
  obtain ⟨I3, c1, c2, c3'⟩ := rS hk1 hk L xs I2 J (d + 3) (dp + 1) n (fAT k n a x (aR 31 st)).2 hX2 b2 (by omega)
  refine ⟨I3, c1.tr (b1.tr a1), c2, ?_⟩
  have t0 : I2 2000002 k = nI (tE 2 k) := hX2.t (j := 2) (by decide) (by omega)
  have t1 : I2 3000002 0 = nI 8 := hX2.ln (j := 2) (by decide)
  have t2 : lyC 2000002 = 998 := lx_row (j := 2) (by decide)
  have t3 : (nI 8).toNatClampNeg = 8 := nI_clamp (by decide)
  rw [nI_add, b3]
  simp only [lc_205, k2, k3, t0, t1, t2, t3, i0c, i0z, i0l, c3', bq_s, mS_c, mS_l, mS_r, mS_i, mS_j, mS_pi, mS_pj, lt_st, bq_s, bV_s, bI_s, bJ_s, bA_s, nz_0, nc_0, nz_1, nc_1, nz_2, nc_2, nz_3, nc_3, nz_4, nc_4, nz_5, nc_5, nz_6, nc_6, nz_7, nc_7, nz_8, nc_8, nz_9, nc_9, nz_10, nc_10, nz_11, nc_11, nz_12, nc_12, if_true, if_false, eq_self, true_and, and_true, false_or, or_false, true_or, or_true, false_and, and_false, not_true, not_false_eq_true, ne_eq, ite_self, ite_not, ↓reduceIte, n_101, n_107, n_11]
theorem r70 (hk1 : 1 ≤ k) (hk : k ≤ 7) : CR k n a 70 7 6 (fun x st => ((fAT k n a x (aR 70 st)).1 * nI 2, (fAT k n a x (aR 70 st)).2)) := by
  intro L xs I J d dp x st hX hA hd
  obtain ⟨I1, a1, a2, a3⟩ := c3 (b := 70) (d := d + 6) (J := J) (x := x) (dp := dp) hA (by omega)
  have hX1 := hX.fa a1
  obtain ⟨g2, g3, g4, g1, gr, gT, g5, gz⟩ := id a2
  rw [show d + 7 = d + 6 + 1 from rfl, a3, e_3_23, if_neg (by decide), if_neg (by decide), if_neg (by decide), if_neg (by decide), if_neg (by decide), if_neg (by decide), if_neg (by decide), if_neg (by decide), if_neg (by decide), if_neg (by decide), if_neg (by decide), if_pos rfl]
  obtain ⟨I2, b1, b2, b3⟩ := r13 hk1 hk L xs I1 J d (dp + 1) x (aR 70 st) hX1 a2 (by omega)
  obtain ⟨k2, k3, k4, k1, kr, kT, k5, kz⟩ := id b2
  refine ⟨I2, b1.tr a1, b2, ?_⟩
  rw [nI_add, b3]
  simp only [lc_205, bq_s, mS_c, mS_l, mS_r, mS_i, mS_j, mS_pi, mS_pj, lt_st, bq_s, bV_s, bI_s, bJ_s, bA_s, nz_0, nc_0, nz_1, nc_1, nz_2, nc_2, nz_3, nc_3, nz_4, nc_4, nz_5, nc_5, nz_6, nc_6, nz_7, nc_7, nz_8, nc_8, nz_9, nc_9, nz_10, nc_10, nz_11, nc_11, nz_12, nc_12, if_true, if_false, eq_self, true_and, and_true, false_or, or_false, true_or, or_true, false_and, and_false, not_true, not_false_eq_true, ne_eq, ite_self, ite_not, ↓reduceIte, n_101, n_107, n_11]
theorem r83 (hk1 : 1 ≤ k) (hk : k ≤ 7) : CR k n a 83 6 5 (fun x st => ((fK k n a x (aR 83 st)).1 - (fS k n a n (fK k n a x (aR 83 st)).2).1, (fS k n a n (fK k n a x (aR 83 st)).2).2)) := by
  intro L xs I J d dp x st hX hA hd
  obtain ⟨I1, a1, a2, a3⟩ := c3 (b := 83) (d := d + 5) (J := J) (x := x) (dp := dp) hA (by omega)
  have hX1 := hX.fa a1
  obtain ⟨g2, g3, g4, g1, gr, gT, g5, gz⟩ := id a2
  rw [show d + 6 = d + 5 + 1 from rfl, a3, e_3_23, if_neg (by decide), if_neg (by decide), if_neg (by decide), if_neg (by decide), if_neg (by decide), if_neg (by decide), if_neg (by decide), if_neg (by decide), if_neg (by decide), if_neg (by decide), if_neg (by decide), if_neg (by decide), if_neg (by decide), if_neg (by decide), if_neg (by decide), if_pos rfl]
  have i0c : (nI (k)).toNatClampNeg = k := nI_clamp (by omega)
  have i0z : (nI (k) < 0) = False := n_ge0 (by omega)
  have i0l : (8 ≤ k) = False := n_lef (by omega)
  obtain ⟨I2, b1, b2, b3⟩ := rK hk1 hk L xs I1 J d (dp + 1) x (aR 83 st) hX1 a2 (by omega)
  have hX2 := hX1.fa b1
  obtain ⟨k2, k3, k4, k1, kr, kT, k5, kz⟩ := id b2
  obtain ⟨I3, c1, c2, c3'⟩ := rS hk1 hk L xs I2 J (d + 2) (dp + 1) n (fK k n a x (aR 83 st)).2 hX2 b2 (by omega)
  refine ⟨I3, c1.tr (b1.tr a1), c2, ?_⟩
  have t0 : I2 2000002 k = nI (tE 2 k) := hX2.t (j := 2) (by decide) (by omega)
  have t1 : I2 3000002 0 = nI 8 := hX2.ln (j := 2) (by decide)
  have t2 : lyC 2000002 = 998 := lx_row (j := 2) (by decide)
  have t3 : (nI 8).toNatClampNeg = 8 := nI_clamp (by decide)
  have t4 : I1 2000001 k = nI (tE 1 k) := hX1.t (j := 1) (by decide) (by omega)
  have t5 : I1 3000001 0 = nI 8 := hX1.ln (j := 1) (by decide)
  have t6 : lyC 2000001 = 998 := lx_row (j := 1) (by decide)
  simp only [lc_205, g2, k2, k3, t0, t1, t2, t3, t4, t5, t6, i0c, i0z, i0l, nI_add, b3, c3', bq_s, mS_c, mS_l, mS_r, mS_i, mS_j, mS_pi, mS_pj, lt_st, bq_s, bV_s, bI_s, bJ_s, bA_s, nz_0, nc_0, nz_1, nc_1, nz_2, nc_2, nz_3, nc_3, nz_4, nc_4, nz_5, nc_5, nz_6, nc_6, nz_7, nc_7, nz_8, nc_8, nz_9, nc_9, nz_10, nc_10, nz_11, nc_11, nz_12, nc_12, if_true, if_false, eq_self, true_and, and_true, false_or, or_false, true_or, or_true, false_and, and_false, not_true, not_false_eq_true, ne_eq, ite_self, ite_not, ↓reduceIte, n_101, n_107, n_11]
theorem rT (hk1 : 1 ≤ k) (hk : k ≤ 7) : CR k n a (tE 3 k) 7 6 (fT k n a) := by
  intro L xs I J d dp x st hX hA hd
  rcases (show k = 1 ∨ k = 2 ∨ k = 3 ∨ k = 4 ∨ k = 5 ∨ k = 6 ∨ k = 7 by omega) with rfl | rfl | rfl | rfl | rfl | rfl | rfl
  · exact r13 hk1 hk L xs I J (d + 1) dp x st hX hA (by omega)
  · exact r31 hk1 hk L xs I J d dp x st hX hA (by omega)
  · exact r31 hk1 hk L xs I J d dp x st hX hA (by omega)
  · exact r13 hk1 hk L xs I J (d + 1) dp x st hX hA (by omega)
  · exact r31 hk1 hk L xs I J d dp x st hX hA (by omega)
  · exact r70 hk1 hk L xs I J d dp x st hX hA (by omega)
  · exact r83 hk1 hk L xs I J (d + 1) dp x st hX hA (by omega)
end I9s
