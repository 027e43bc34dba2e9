/-! ===== act: the model ===== -/
abbrev FMA (I' I : mI) : Prop := (∀ a, a ≠ 229 → a ≠ 248 → I' a = I a) ∧ ∀ j, j ≠ 35 → j ≠ 36 → I' 229 j = I 229 j
def AM (I : mI) (k : Nat) (n a : Int32) (st : As) : Prop := I 229 31 = nI k ∧ I 229 32 = n ∧ I 229 33 = a ∧ I 229 35 = nI st.1 ∧ st.1 ≤ 30 ∧ (∀ j, j < st.1 → I 248 j = st.2.1 j) ∧ I 229 36 = st.2.2 ∧ (¬ a = n → st.2.2 = nI 0)
def MR (k : Nat) (n a : Int32) (y c : Nat) (F : Int32 → As → Int32 × As) : Prop := ∀ (I : mI) (J : mJ) (d : Nat) (x : Int32) (st : As), AM I k n a st → ∃ I', FMA I' I ∧ AM I' k n a (F x st).2 ∧ am_cal (d + c) y [.ref 229, .int x] (mS I J) = some (some (.int (F x st).1), mS I' J)
section I11s
variable {I I' : mI} {J : mJ} {k b d L : Nat} {n a x y z : Int32} {st : As} {W : Nat → Nat} {H Y : Nat → Int32}
theorem FMA.tr {I1 : mI} (h : FMA I' I1) (h2 : FMA I1 I) : FMA I' I := ⟨fun a b c => (h.1 a b c).trans (h2.1 a b c), fun j b c => (h.2 j b c).trans (h2.2 j b c)⟩
theorem FMA.rf : FMA I I := ⟨fun _ _ _ => rfl, fun _ _ _ => rfl⟩
theorem m256 (hA : AM I k n a st) : ∃ I', FMA I' I ∧ AM I' k n a (aR b st) ∧ am_cal (d + 1) 256 [.ref 229, .int (nI b)] (mS I J) = some (none, mS I' J) := by
  obtain ⟨h2, h3, h4, h1, hr, hT, h5, hz⟩ := hA
  unfold aR
  by_cases hh : st.1 < 30
  · rw [if_pos hh]
    have i0c : (nI (st.1)).toNatClampNeg = st.1 := nI_clamp (by omega)
    have i0z : (nI (st.1) < 0) = False := n_ge0 (by omega)
    have i0l : (30 ≤ st.1) = False := n_lef (by omega)
    refine ⟨wI (wI I 248 st.1 (nI b)) 229 35 (nI (st.1 + 1)), ⟨fun c h h' => by rw [wI_F1 c h, wI_F1 c h'], fun j h h' => by rw [wI_nk h, wI_ne (by decide)]⟩, ⟨?_, ?_, ?_, ?_, by omega, fun j hj => ?_, ?_, hz⟩, ?_⟩
    · rw [wI_nk (by decide), wI_ne (by decide)]; exact h2
    · rw [wI_nk (by decide), wI_ne (by decide)]; exact h3
    · rw [wI_nk (by decide), wI_ne (by decide)]; exact h4
    · rw [wI_eq]
    · rw [wI_ne (by decide)]
      by_cases e : j = st.1
      · subst e; rw [wI_eq]; exact upA_eq.symm
      · rw [wI_nk e]
        exact (hT j (by have : j < st.1 + 1 := hj; omega)).trans (upA_ne e).symm
    · rw [wI_nk (by decide), wI_ne (by decide)]; exact h5
    · have g1 : wI I 248 st.1 (nI b) 229 35 = nI st.1 := by rw [wI_ne (by decide)]; exact h1
      rw [c_256 lc_229]
      simp only [lc_229, lr_229_34, lc_248, ll_248, h1, g1, n_lt (show st.1 < 2 ^ 31 by omega) (show 30 < 2 ^ 31 by decide), eq_true hh, i0c, i0z, i0l, nI_add, lc_229, lr_229_0, lc_230, ll_230, bq_s, mS_c, mS_l, mS_r, mS_i, mS_j, mS_pi, mS_pj, lt_st, bq_s, bV_s, bI_s, bJ_s, bA_s, nz_0, nc_0, nz_1, nc_1, nz_2, nc_2, nz_3, nc_3, nz_4, nc_4, nz_5, nc_5, nz_6, nc_6, nz_7, nc_7, nz_8, nc_8, nz_9, nc_9, nz_10, nc_10, nz_11, nc_11, nz_12, nc_12, if_true, if_false, eq_self, true_and, and_true, false_or, or_false, true_or, or_true, false_and, and_false, not_true, not_false_eq_true, ne_eq, ite_self, ite_not, ↓reduceIte]
  · rw [if_neg hh]
    refine ⟨I, FMA.rf, ⟨h2, h3, h4, h1, hr, hT, h5, hz⟩, ?_⟩
    rw [c_256 lc_229]
    simp only [lc_229, h1, n_lt (show st.1 < 2 ^ 31 by omega) (show 30 < 2 ^ 31 by decide), eq_false hh, lc_229, lr_229_0, lc_230, ll_230, bq_s, mS_c, mS_l, mS_r, mS_i, mS_j, mS_pi, mS_pj, lt_st, bq_s, bV_s, bI_s, bJ_s, bA_s, nz_0, nc_0, nz_1, nc_1, nz_2, nc_2, nz_3, nc_3, nz_4, nc_4, nz_5, nc_5, nz_6, nc_6, nz_7, nc_7, nz_8, nc_8, nz_9, nc_9, nz_10, nc_10, nz_11, nc_11, nz_12, nc_12, if_true, if_false, eq_self, true_and, and_true, false_or, or_false, true_or, or_true, false_and, and_false, not_true, not_false_eq_true, ne_eq, ite_self, ite_not, ↓reduceIte]

theorem q257 : MR k n a 257 2 (fAB a) := by
  intro I J d x st hA
  obtain ⟨I1, a1, a2, a3⟩ := m256 (b := 10) (d := d + 0) (J := J) hA
  obtain ⟨g2, g3, g4, g1, gr, gT, g5, gz⟩ := id a2
  refine ⟨I1, a1, a2, ?_⟩
  rw [show d + 2 = d + 1 + 1 from rfl, c_257 lc_229, a3, bV_s, if_pos (show am_c (mS I1 J) 229 = 12 from lc_229)]
  show some (some (Value.int (x + I1 229 33)), mS I1 J) = _
  rw [g4]; rfl
theorem q258 : MR k n a 258 3 (fCB a) := by
  intro I J d x st hA
  obtain ⟨I1, a1, a2, a3⟩ := m256 (b := 30) (d := d + 1) (J := J) hA
  obtain ⟨g2, g3, g4, g1, gr, gT, g5, gz⟩ := id a2
  obtain ⟨I2, b1, b2, b3⟩ := q257 I1 J d x (aR 30 st) a2
  obtain ⟨k2, k3, k4, k1, kr, kT, k5, kz⟩ := id b2
  refine ⟨I2, b1.tr a1, b2, ?_⟩
  rw [show d + 3 = d + 2 + 1 from rfl, c_258 lc_229, a3, bV_s, b3, bI_s]
  rfl
theorem q259 (hk1 : 1 ≤ k) (hk : k ≤ 7) : MR k n a 259 4 (fB k n a) := by
  intro I J d x st hA
  obtain ⟨h2, h3, h4, h1, hr, hT, h5, hz⟩ := id hA
  rcases (show k = 1 ∨ k = 2 ∨ k = 3 ∨ k = 4 ∨ k = 5 ∨ k = 6 ∨ k = 7 by omega) with rfl | rfl | rfl | rfl | rfl | rfl | rfl
  · obtain ⟨I2, b1, b2, b3⟩ := q257 I J (d + 1) x st hA
    refine ⟨I2, b1, b2, ?_⟩
    rw [show d + 4 = d + 3 + 1 from rfl, c_259 lc_229, if_pos lc_229, if_neg (by rw [h2]; decide), if_neg (by rw [h2]; decide), if_neg (by rw [h2]; decide), if_neg (by rw [h2]; decide), if_neg (by rw [h2]; decide), if_neg (by rw [h2]; decide), b3, bI_s]
    rfl
  · obtain ⟨I2, b1, b2, b3⟩ := q258 I J (d + 0) x st hA
    refine ⟨I2, b1, b2, ?_⟩
    rw [show d + 4 = d + 3 + 1 from rfl, c_259 lc_229, if_pos lc_229, if_pos h2, b3, bI_s]
    rfl
  · obtain ⟨I1, a1, a2, a3⟩ := m256 (b := 40) (d := d + 2) (J := J) hA
    obtain ⟨I2, b1, b2, b3⟩ := q258 I1 J (d + 0) x (aR 40 st) a2
    obtain ⟨k2, k3, k4, k1, kr, kT, k5, kz⟩ := id b2
    refine ⟨I2, b1.tr a1, b2, ?_⟩
    rw [show d + 4 = d + 3 + 1 from rfl, c_259 lc_229, if_pos lc_229, if_neg (by rw [h2]; decide), if_pos h2, a3, bV_s, b3, bI_s]
    simp only [lc_229, k3, lc_229, lr_229_0, lc_230, ll_230, bq_s, mS_c, mS_l, mS_r, mS_i, mS_j, mS_pi, mS_pj, lt_st, bq_s, bV_s, bI_s, bJ_s, bA_s, nz_0, nc_0, nz_1, nc_1, nz_2, nc_2, nz_3, nc_3, nz_4, nc_4, nz_5, nc_5, nz_6, nc_6, nz_7, nc_7, nz_8, nc_8, nz_9, nc_9, nz_10, nc_10, nz_11, nc_11, nz_12, nc_12, if_true, if_false, eq_self, true_and, and_true, false_or, or_false, true_or, or_true, false_and, and_false, not_true, not_false_eq_true, ne_eq, ite_self, ite_not, ↓reduceIte]
    rfl
  · obtain ⟨I2, b1, b2, b3⟩ := q257 I J (d + 1) x st hA
    refine ⟨I2, b1, b2, ?_⟩
    rw [show d + 4 = d + 3 + 1 from rfl, c_259 lc_229, if_pos lc_229, if_neg (by rw [h2]; decide), if_neg (by rw [h2]; decide), if_pos h2, b3, bI_s]
    rfl
  · obtain ⟨I2, b1, b2, b3⟩ := q258 I J (d + 0) x st hA
    refine ⟨I2, b1, b2, ?_⟩
    rw [show d + 4 = d + 3 + 1 from rfl, c_259 lc_229, if_pos lc_229, if_neg (by rw [h2]; decide), if_neg (by rw [h2]; decide), if_neg (by rw [h2]; decide), if_pos h2, b3, bI_s]
    rfl
  · obtain ⟨I2, b1, b2, b3⟩ := q257 I J (d + 1) x st hA
    refine ⟨I2, b1, b2, ?_⟩
    rw [show d + 4 = d + 3 + 1 from rfl, c_259 lc_229, if_pos lc_229, if_neg (by rw [h2]; decide), if_neg (by rw [h2]; decide), if_neg (by rw [h2]; decide), if_neg (by rw [h2]; decide), if_pos h2, b3, bI_s]
    rfl
  · obtain ⟨I1, a1, a2, a3⟩ := m256 (b := 80) (d := d + 2) (J := J) hA
    obtain ⟨k2, k3, k4, k1, kr, kT, k5, kz⟩ := id a2
    refine ⟨I1, a1, a2, ?_⟩
    rw [show d + 4 = d + 3 + 1 from rfl, c_259 lc_229, if_pos lc_229, if_neg (by rw [h2]; decide), if_neg (by rw [h2]; decide), if_neg (by rw [h2]; decide), if_neg (by rw [h2]; decide), if_neg (by rw [h2]; decide), if_pos h2, a3, bV_s, if_pos (show am_c (mS I1 J) 229 = 12 from lc_229)]
    simp only [k4, lc_229, lr_229_0, lc_230, ll_230, bq_s, mS_c, mS_l, mS_r, mS_i, mS_j, mS_pi, mS_pj, lt_st, bq_s, bV_s, bI_s, bJ_s, bA_s, nz_0, nc_0, nz_1, nc_1, nz_2, nc_2, nz_3, nc_3, nz_4, nc_4, nz_5, nc_5, nz_6, nc_6, nz_7, nc_7, nz_8, nc_8, nz_9, nc_9, nz_10, nc_10, nz_11, nc_11, nz_12, nc_12, if_true, if_false, eq_self, true_and, and_true, false_or, or_false, true_or, or_true, false_and, and_false, not_true, not_false_eq_true, ne_eq, ite_self, ite_not, ↓reduceIte]
    rfl
theorem q260 (hk1 : 1 ≤ k) (hk : k ≤ 7)  : MR k n a 260 5 (fAK k n a) := by
  intro I J d x st hA
  obtain ⟨I1, a1, a2, a3⟩ := m256 (b := 11) (d := d + 3) (J := J) hA
  obtain ⟨g2, g3, g4, g1, gr, gT, g5, gz⟩ := id a2
  obtain ⟨I2, b1, b2, b3⟩ := q259 hk1 hk I1 J d x (aR 11 st) a2
  obtain ⟨k2, k3, k4, k1, kr, kT, k5, kz⟩ := id b2
  refine ⟨I2, b1.tr a1, b2, ?_⟩
  rw [show d + 5 = d + 4 + 1 from rfl, c_260 lc_229, a3, bV_s, b3, bI_s]
  rfl
theorem q261 (hk1 : 1 ≤ k) (hk : k ≤ 7) : MR k n a 261 6 (fK k n a) := by
  intro I J d x st hA
  obtain ⟨h2, h3, h4, h1, hr, hT, h5, hz⟩ := id hA
  rcases (show k = 1 ∨ k = 2 ∨ k = 3 ∨ k = 4 ∨ k = 5 ∨ k = 6 ∨ k = 7 by omega) with rfl | rfl | rfl | rfl | rfl | rfl | rfl
  · obtain ⟨I1, a1, a2, a3⟩ := m256 (b := 20) (d := d + 4) (J := J) hA
    obtain ⟨I2, b1, b2, b3⟩ := q260 hk1 hk I1 J (d + 0) x (aR 20 st) a2
    obtain ⟨k2, k3, k4, k1, kr, kT, k5, kz⟩ := id b2
    refine ⟨I2, b1.tr a1, b2, ?_⟩
    rw [show d + 6 = d + 5 + 1 from rfl, c_261 lc_229, if_pos lc_229, if_pos h2, a3, bV_s, b3, bI_s]
    rfl
  · obtain ⟨I2, b1, b2, b3⟩ := q260 hk1 hk I J (d + 0) x st hA
    refine ⟨I2, b1, b2, ?_⟩
    rw [show d + 6 = d + 5 + 1 from rfl, c_261 lc_229, if_pos lc_229, if_neg (by rw [h2]; decide), if_pos h2, b3, bI_s]
    rfl
  · obtain ⟨I2, b1, b2, b3⟩ := q260 hk1 hk I J (d + 0) x st hA
    refine ⟨I2, b1, b2, ?_⟩
    rw [show d + 6 = d + 5 + 1 from rfl, c_261 lc_229, if_pos lc_229, if_neg (by rw [h2]; decide), if_neg (by rw [h2]; decide), if_pos h2, b3, bI_s]
    rfl
  · obtain ⟨I1, a1, a2, a3⟩ := m256 (b := 60) (d := d + 4) (J := J) hA
    obtain ⟨I2, b1, b2, b3⟩ := q260 hk1 hk I1 J (d + 0) x (aR 60 st) a2
    obtain ⟨k2, k3, k4, k1, kr, kT, k5, kz⟩ := id b2
    refine ⟨I2, b1.tr a1, b2, ?_⟩
    rw [show d + 6 = d + 5 + 1 from rfl, c_261 lc_229, if_pos lc_229, if_neg (by rw [h2]; decide), if_neg (by rw [h2]; decide), if_neg (by rw [h2]; decide), if_pos h2, a3, bV_s, b3, bI_s]
    simp only [lc_229, k4, lc_229, lr_229_0, lc_230, ll_230, bq_s, mS_c, mS_l, mS_r, mS_i, mS_j, mS_pi, mS_pj, lt_st, bq_s, bV_s, bI_s, bJ_s, bA_s, nz_0, nc_0, nz_1, nc_1, nz_2, nc_2, nz_3, nc_3, nz_4, nc_4, nz_5, nc_5, nz_6, nc_6, nz_7, nc_7, nz_8, nc_8, nz_9, nc_9, nz_10, nc_10, nz_11, nc_11, nz_12, nc_12, if_true, if_false, eq_self, true_and, and_true, false_or, or_false, true_or, or_true, false_and, and_false, not_true, not_false_eq_true, ne_eq, ite_self, ite_not, ↓reduceIte]
    rfl
  · obtain ⟨I1, a1, a2, a3⟩ := m256 (b := 51) (d := d + 4) (J := J) hA
    obtain ⟨I2, b1, b2, b3⟩ := q260 hk1 hk I1 J (d + 0) x (aR 51 st) a2
    obtain ⟨k2, k3, k4, k1, kr, kT, k5, kz⟩ := id b2
    refine ⟨I2, b1.tr a1, b2, ?_⟩
    rw [show d + 6 = d + 5 + 1 from rfl, c_261 lc_229, if_pos lc_229, if_neg (by rw [h2]; decide), if_neg (by rw [h2]; decide), if_neg (by rw [h2]; decide), if_neg (by rw [h2]; decide), if_pos h2, a3, bV_s, b3, bI_s]
    rfl
  · obtain ⟨I2, b1, b2, b3⟩ := q260 hk1 hk I J (d + 0) x st hA
    refine ⟨I2, b1, b2, ?_⟩
    rw [show d + 6 = d + 5 + 1 from rfl, c_261 lc_229, if_pos lc_229, if_neg (by rw [h2]; decide), if_neg (by rw [h2]; decide), if_neg (by rw [h2]; decide), if_neg (by rw [h2]; decide), if_neg (by rw [h2]; decide), if_pos h2, b3, bI_s]
    rfl
  · obtain ⟨I1, a1, a2, a3⟩ := m256 (b := 81) (d := d + 4) (J := J) hA
    obtain ⟨I2, b1, b2, b3⟩ := q259 hk1 hk I1 J (d + 1) x (aR 81 st) a2
    obtain ⟨k2, k3, k4, k1, kr, kT, k5, kz⟩ := id b2
    refine ⟨I2, b1.tr a1, b2, ?_⟩
    rw [show d + 6 = d + 5 + 1 from rfl, c_261 lc_229, if_pos lc_229, if_neg (by rw [h2]; decide), if_neg (by rw [h2]; decide), if_neg (by rw [h2]; decide), if_neg (by rw [h2]; decide), if_neg (by rw [h2]; decide), if_neg (by rw [h2]; decide), if_pos h2, a3, bV_s, b3, bI_s]
    simp only [lc_229, k3, lc_229, lr_229_0, lc_230, ll_230, bq_s, mS_c, mS_l, mS_r, mS_i, mS_j, mS_pi, mS_pj, lt_st, bq_s, bV_s, bI_s, bJ_s, bA_s, nz_0, nc_0, nz_1, nc_1, nz_2, nc_2, nz_3, nc_3, nz_4, nc_4, nz_5, nc_5, nz_6, nc_6, nz_7, nc_7, nz_8, nc_8, nz_9, nc_9, nz_10, nc_10, nz_11, nc_11, nz_12, nc_12, if_true, if_false, eq_self, true_and, and_true, false_or, or_false, true_or, or_true, false_and, and_false, not_true, not_false_eq_true, ne_eq, ite_self, ite_not, ↓reduceIte]
    rfl
theorem q262 : MR k n a 262 2 (fAS n a) := by
  intro I J d x st hA
  obtain ⟨I1, a1, a2, a3⟩ := m256 (b := 12) (d := d + 0) (J := J) hA
  obtain ⟨g2, g3, g4, g1, gr, gT, g5, gz⟩ := id a2
  rw [show d + 2 = d + 1 + 1 from rfl, c_262 lc_229, a3, bV_s]
  unfold fAS
  by_cases e : a = n
  · rw [if_pos e]
    refine ⟨wI I1 229 36 (nI 1), ⟨fun c h h' => by rw [wI_F1 c h]; exact a1.1 c h h', fun j h h' => by rw [wI_nk h']; exact a1.2 j h h'⟩, ⟨?_, ?_, ?_, ?_, gr, ?_, ?_, fun h => absurd e h⟩, ?_⟩
    · rw [wI_nk (by decide)]; exact g2
    · rw [wI_nk (by decide)]; exact g3
    · rw [wI_nk (by decide)]; exact g4
    · rw [wI_nk (by decide)]; exact g1
    · intro j hj; rw [wI_ne (by decide)]; exact gT j hj
    · rw [wI_eq]
    · simp only [lc_229, g3, g4, eq_true e, wI_eq, z_f, lc_229, lr_229_0, lc_230, ll_230, bq_s, mS_c, mS_l, mS_r, mS_i, mS_j, mS_pi, mS_pj, lt_st, bq_s, bV_s, bI_s, bJ_s, bA_s, nz_0, nc_0, nz_1, nc_1, nz_2, nc_2, nz_3, nc_3, nz_4, nc_4, nz_5, nc_5, nz_6, nc_6, nz_7, nc_7, nz_8, nc_8, nz_9, nc_9, nz_10, nc_10, nz_11, nc_11, nz_12, nc_12, if_true, if_false, eq_self, true_and, and_true, false_or, or_false, true_or, or_true, false_and, and_false, not_true, not_false_eq_true, ne_eq, ite_self, ite_not, ↓reduceIte]
  · rw [if_neg e]
    have e2 : ¬ a - n = 0 := fun h => e (by
      have h1 : a = (a - n) + n := (Int32.sub_add_cancel a n).symm
      rw [h, Int32.zero_add] at h1
      exact h1)
    have u3 : wI I1 229 36 (nI 0) 229 32 = n := by rw [wI_nk (by decide)]; exact g3
    have u4 : wI I1 229 36 (nI 0) 229 33 = a := by rw [wI_nk (by decide)]; exact g4
    refine ⟨wI I1 229 36 (nI 0), ⟨fun c h h' => by rw [wI_F1 c h]; exact a1.1 c h h', fun j h h' => by rw [wI_nk h']; exact a1.2 j h h'⟩, ⟨?_, u3, u4, ?_, gr, ?_, ?_, gz⟩, ?_⟩
    · rw [wI_nk (by decide)]; exact g2
    · rw [wI_nk (by decide)]; exact g1
    · intro j hj; rw [wI_ne (by decide)]; exact gT j hj
    · rw [wI_eq]; exact (gz e).symm
    · simp only [lc_229, g3, g4, u3, u4, eq_false e, eq_false e2, wI_eq, z_t, lc_229, lr_229_0, lc_230, ll_230, bq_s, mS_c, mS_l, mS_r, mS_i, mS_j, mS_pi, mS_pj, lt_st, bq_s, bV_s, bI_s, bJ_s, bA_s, nz_0, nc_0, nz_1, nc_1, nz_2, nc_2, nz_3, nc_3, nz_4, nc_4, nz_5, nc_5, nz_6, nc_6, nz_7, nc_7, nz_8, nc_8, nz_9, nc_9, nz_10, nc_10, nz_11, nc_11, nz_12, nc_12, if_true, if_false, eq_self, true_and, and_true, false_or, or_false, true_or, or_true, false_and, and_false, not_true, not_false_eq_true, ne_eq, ite_self, ite_not, ↓reduceIte]
theorem q263 (hk1 : 1 ≤ k) (hk : k ≤ 7) : MR k n a 263 3 (fS k n a) := by
  intro I J d x st hA
  obtain ⟨h2, h3, h4, h1, hr, hT, h5, hz⟩ := id hA
  rcases (show k = 1 ∨ k = 2 ∨ k = 3 ∨ k = 4 ∨ k = 5 ∨ k = 6 ∨ k = 7 by omega) with rfl | rfl | rfl | rfl | rfl | rfl | rfl
  · obtain ⟨I2, b1, b2, b3⟩ := q262 I J (d + 0) x st hA
    refine ⟨I2, b1, b2, ?_⟩
    rw [show d + 3 = d + 2 + 1 from rfl, c_263 lc_229, if_pos lc_229, if_neg (by rw [h2]; decide), if_neg (by rw [h2]; decide), b3, bI_s]
    rfl
  · obtain ⟨I2, b1, b2, b3⟩ := q262 I J (d + 0) x st hA
    refine ⟨I2, b1, b2, ?_⟩
    rw [show d + 3 = d + 2 + 1 from rfl, c_263 lc_229, if_pos lc_229, if_neg (by rw [h2]; decide), if_neg (by rw [h2]; decide), b3, bI_s]
    rfl
  · obtain ⟨I2, b1, b2, b3⟩ := q262 I J (d + 0) x st hA
    refine ⟨I2, b1, b2, ?_⟩
    rw [show d + 3 = d + 2 + 1 from rfl, c_263 lc_229, if_pos lc_229, if_neg (by rw [h2]; decide), if_neg (by rw [h2]; decide), b3, bI_s]
    rfl
  · obtain ⟨I2, b1, b2, b3⟩ := q262 I J (d + 0) x st hA
    refine ⟨I2, b1, b2, ?_⟩
    rw [show d + 3 = d + 2 + 1 from rfl, c_263 lc_229, if_pos lc_229, if_neg (by rw [h2]; decide), if_neg (by rw [h2]; decide), b3, bI_s]
    rfl
  · obtain ⟨I1, a1, a2, a3⟩ := m256 (b := 50) (d := d + 1) (J := J) hA
    obtain ⟨I2, b1, b2, b3⟩ := q262 I1 J d (x + nI 1) (aR 50 st) a2
    refine ⟨I2, b1.tr a1, b2, ?_⟩
    rw [show d + 3 = d + 2 + 1 from rfl, c_263 lc_229, if_pos lc_229, if_pos h2, a3, bV_s, b3, bI_s]
    rfl
  · obtain ⟨I2, b1, b2, b3⟩ := q262 I J (d + 0) x st hA
    refine ⟨I2, b1, b2, ?_⟩
    rw [show d + 3 = d + 2 + 1 from rfl, c_263 lc_229, if_pos lc_229, if_neg (by rw [h2]; decide), if_neg (by rw [h2]; decide), b3, bI_s]
    rfl
  · obtain ⟨I1, a1, a2, a3⟩ := m256 (b := 82) (d := d + 1) (J := J) hA
    obtain ⟨k2, k3, k4, k1, kr, kT, k5, kz⟩ := id a2
    refine ⟨I1, a1, a2, ?_⟩
    rw [show d + 3 = d + 2 + 1 from rfl, c_263 lc_229, if_pos lc_229, if_neg (by rw [h2]; decide), if_pos h2, a3, bV_s, if_pos (show am_c (mS I1 J) 229 = 12 from lc_229)]
    simp only [k4, lc_229, lr_229_0, lc_230, ll_230, bq_s, mS_c, mS_l, mS_r, mS_i, mS_j, mS_pi, mS_pj, lt_st, bq_s, bV_s, bI_s, bJ_s, bA_s, nz_0, nc_0, nz_1, nc_1, nz_2, nc_2, nz_3, nc_3, nz_4, nc_4, nz_5, nc_5, nz_6, nc_6, nz_7, nc_7, nz_8, nc_8, nz_9, nc_9, nz_10, nc_10, nz_11, nc_11, nz_12, nc_12, if_true, if_false, eq_self, true_and, and_true, false_or, or_false, true_or, or_true, false_and, and_false, not_true, not_false_eq_true, ne_eq, ite_self, ite_not, ↓reduceIte]
    rfl
theorem q264 (hk1 : 1 ≤ k) (hk : k ≤ 7)  : MR k n a 264 7 (fAT k n a) := by
  intro I J d x st hA
  obtain ⟨I1, a1, a2, a3⟩ := m256 (b := 13) (d := d + 5) (J := J) hA
  obtain ⟨g2, g3, g4, g1, gr, gT, g5, gz⟩ := id a2
  obtain ⟨I2, b1, b2, b3⟩ := q261 hk1 hk I1 J d x (aR 13 st) a2
  obtain ⟨k2, k3, k4, k1, kr, kT, k5, kz⟩ := id b2
  refine ⟨I2, b1.tr a1, b2, ?_⟩
  rw [show d + 7 = d + 6 + 1 from rfl, c_264 lc_229, a3, bV_s, b3, bI_s]
  simp only [lc_229, k3, lc_229, lr_229_0, lc_230, ll_230, bq_s, mS_c, mS_l, mS_r, mS_i, mS_j, mS_pi, mS_pj, lt_st, bq_s, bV_s, bI_s, bJ_s, bA_s, nz_0, nc_0, nz_1, nc_1, nz_2, nc_2, nz_3, nc_3, nz_4, nc_4, nz_5, nc_5, nz_6, nc_6, nz_7, nc_7, nz_8, nc_8, nz_9, nc_9, nz_10, nc_10, nz_11, nc_11, nz_12, nc_12, if_true, if_false, eq_self, true_and, and_true, false_or, or_false, true_or, or_true, false_and, and_false, not_true, not_false_eq_true, ne_eq, ite_self, ite_not, ↓reduceIte]
  rfl
theorem q265 (hk1 : 1 ≤ k) (hk : k ≤ 7) : MR k n a 265 8 (fT k n a) := by
  intro I J d x st hA
  obtain ⟨h2, h3, h4, h1, hr, hT, h5, hz⟩ := id hA
  rcases (show k = 1 ∨ k = 2 ∨ k = 3 ∨ k = 4 ∨ k = 5 ∨ k = 6 ∨ k = 7 by omega) with rfl | rfl | rfl | rfl | rfl | rfl | rfl
  · obtain ⟨I2, b1, b2, b3⟩ := q264 hk1 hk I J (d + 0) x st hA
    refine ⟨I2, b1, b2, ?_⟩
    rw [show d + 8 = d + 7 + 1 from rfl, c_265 lc_229, if_pos lc_229, if_neg (by rw [h2]; decide), if_neg (by rw [h2]; decide), if_neg (by rw [h2]; decide), if_neg (by rw [h2]; decide), if_neg (by rw [h2]; decide), if_neg (by rw [h2]; decide), b3, bI_s]
    rfl
  · obtain ⟨I1, a1, a2, a3⟩ := m256 (b := 31) (d := d + 6) (J := J) hA
    obtain ⟨I2, b1, b2, b3⟩ := q264 hk1 hk I1 J (d + 0) x (aR 31 st) a2
    obtain ⟨k2, k3, k4, k1, kr, kT, k5, kz⟩ := id b2
    obtain ⟨I3, c1, c2, c3⟩ := q263 hk1 hk I2 J (d + 4) n _ b2
    refine ⟨I3, c1.tr (b1.tr a1), c2, ?_⟩
    rw [show d + 8 = d + 7 + 1 from rfl, c_265 lc_229, if_pos lc_229, if_pos h2, a3, bV_s, b3, bI_s]
    simp only [lc_229, k3, c3, lc_229, lr_229_0, lc_230, ll_230, bq_s, mS_c, mS_l, mS_r, mS_i, mS_j, mS_pi, mS_pj, lt_st, bq_s, bV_s, bI_s, bJ_s, bA_s, nz_0, nc_0, nz_1, nc_1, nz_2, nc_2, nz_3, nc_3, nz_4, nc_4, nz_5, nc_5, nz_6, nc_6, nz_7, nc_7, nz_8, nc_8, nz_9, nc_9, nz_10, nc_10, nz_11, nc_11, nz_12, nc_12, if_true, if_false, eq_self, true_and, and_true, false_or, or_false, true_or, or_true, false_and, and_false, not_true, not_false_eq_true, ne_eq, ite_self, ite_not, ↓reduceIte]
    rfl
  · obtain ⟨I1, a1, a2, a3⟩ := m256 (b := 31) (d := d + 6) (J := J) hA
    obtain ⟨I2, b1, b2, b3⟩ := q264 hk1 hk I1 J (d + 0) x (aR 31 st) a2
    obtain ⟨k2, k3, k4, k1, kr, kT, k5, kz⟩ := id b2
    obtain ⟨I3, c1, c2, c3⟩ := q263 hk1 hk I2 J (d + 4) n _ b2
    refine ⟨I3, c1.tr (b1.tr a1), c2, ?_⟩
    rw [show d + 8 = d + 7 + 1 from rfl, c_265 lc_229, if_pos lc_229, if_neg (by rw [h2]; decide), if_pos h2, a3, bV_s, b3, bI_s]
    simp only [lc_229, k3, c3, lc_229, lr_229_0, lc_230, ll_230, bq_s, mS_c, mS_l, mS_r, mS_i, mS_j, mS_pi, mS_pj, lt_st, bq_s, bV_s, bI_s, bJ_s, bA_s, nz_0, nc_0, nz_1, nc_1, nz_2, nc_2, nz_3, nc_3, nz_4, nc_4, nz_5, nc_5, nz_6, nc_6, nz_7, nc_7, nz_8, nc_8, nz_9, nc_9, nz_10, nc_10, nz_11, nc_11, nz_12, nc_12, if_true, if_false, eq_self, true_and, and_true, false_or, or_false, true_or, or_true, false_and, and_false, not_true, not_false_eq_true, ne_eq, ite_self, ite_not, ↓reduceIte]
    rfl
  · obtain ⟨I2, b1, b2, b3⟩ := q264 hk1 hk I J (d + 0) x st hA
    refine ⟨I2, b1, b2, ?_⟩
    rw [show d + 8 = d + 7 + 1 from rfl, c_265 lc_229, if_pos lc_229, if_neg (by rw [h2]; decide), if_neg (by rw [h2]; decide), if_pos h2, b3, bI_s]
    rfl
  · obtain ⟨I1, a1, a2, a3⟩ := m256 (b := 31) (d := d + 6) (J := J) hA
    obtain ⟨I2, b1, b2, b3⟩ := q264 hk1 hk I1 J (d + 0) x (aR 31 st) a2
    obtain ⟨k2, k3, k4, k1, kr, kT, k5, kz⟩ := id b2
    obtain ⟨I3, c1, c2, c3⟩ := q263 hk1 hk I2 J (d + 4) n _ b2
    refine ⟨I3, c1.tr (b1.tr a1), c2, ?_⟩
    rw [show d + 8 = d + 7 + 1 from rfl, c_265 lc_229, if_pos lc_229, if_neg (by rw [h2]; decide), if_neg (by rw [h2]; decide), if_neg (by rw [h2]; decide), if_pos h2, a3, bV_s, b3, bI_s]
    simp only [lc_229, k3, c3, lc_229, lr_229_0, lc_230, ll_230, bq_s, mS_c, mS_l, mS_r, mS_i, mS_j, mS_pi, mS_pj, lt_st, bq_s, bV_s, bI_s, bJ_s, bA_s, nz_0, nc_0, nz_1, nc_1, nz_2, nc_2, nz_3, nc_3, nz_4, nc_4, nz_5, nc_5, nz_6, nc_6, nz_7, nc_7, nz_8, nc_8, nz_9, nc_9, nz_10, nc_10, nz_11, nc_11, nz_12, nc_12, if_true, if_false, eq_self, true_and, and_true, false_or, or_false, true_or, or_true, false_and, and_false, not_true, not_false_eq_true, ne_eq, ite_self, ite_not, ↓reduceIte]
    rfl
  · obtain ⟨I1, a1, a2, a3⟩ := m256 (b := 70) (d := d + 6) (J := J) hA
    obtain ⟨I2, b1, b2, b3⟩ := q264 hk1 hk I1 J (d + 0) x (aR 70 st) a2
    obtain ⟨k2, k3, k4, k1, kr, kT, k5, kz⟩ := id b2
    refine ⟨I2, b1.tr a1, b2, ?_⟩
    rw [show d + 8 = d + 7 + 1 from rfl, c_265 lc_229, if_pos lc_229, if_neg (by rw [h2]; decide), if_neg (by rw [h2]; decide), if_neg (by rw [h2]; decide), if_neg (by rw [h2]; decide), if_pos h2, a3, bV_s, b3, bI_s]
    rfl
  · obtain ⟨I1, a1, a2, a3⟩ := m256 (b := 83) (d := d + 6) (J := J) hA
    obtain ⟨I2, b1, b2, b3⟩ := q261 hk1 hk I1 J (d + 1) x (aR 83 st) a2
    obtain ⟨k2, k3, k4, k1, kr, kT, k5, kz⟩ := id b2
    obtain ⟨I3, c1, c2, c3⟩ := q263 hk1 hk I2 J (d + 4) n _ b2
    refine ⟨I3, c1.tr (b1.tr a1), c2, ?_⟩
    rw [show d + 8 = d + 7 + 1 from rfl, c_265 lc_229, if_pos lc_229, if_neg (by rw [h2]; decide), if_neg (by rw [h2]; decide), if_neg (by rw [h2]; decide), if_neg (by rw [h2]; decide), if_neg (by rw [h2]; decide), if_pos h2, a3, bV_s, b3, bI_s]
    simp only [lc_229, k3, c3, lc_229, lr_229_0, lc_230, ll_230, bq_s, mS_c, mS_l, mS_r, mS_i, mS_j, mS_pi, mS_pj, lt_st, bq_s, bV_s, bI_s, bJ_s, bA_s, nz_0, nc_0, nz_1, nc_1, nz_2, nc_2, nz_3, nc_3, nz_4, nc_4, nz_5, nc_5, nz_6, nc_6, nz_7, nc_7, nz_8, nc_8, nz_9, nc_9, nz_10, nc_10, nz_11, nc_11, nz_12, nc_12, if_true, if_false, eq_self, true_and, and_true, false_or, or_false, true_or, or_true, false_and, and_false, not_true, not_false_eq_true, ne_eq, ite_self, ite_not, ↓reduceIte]
    rfl
theorem SlM.fr (h : SlM I W H Y) (h1 : I' 245 = I 245) (h2 : I' 246 = I 246) (h3 : I' 247 = I 247) : SlM I' W H Y := fun q hq => by
  rw [h1, h2, h3]
  exact h q hq
theorem m266 (hL : SlM I W H Y) (hW : WF (I 230)) : ∃ I', ((∀ a, a ≠ 229 → a ≠ 248 → I' a = I a) ∧ ∀ j, (j < 31 ∨ 36 < j) → I' 229 j = I 229 j) ∧ TrM I' (v_act (I 230) W H x y z).2.1 (v_act (I 230) W H x y z).2.2.1 ∧ am_cal (d + 9) 266 [.ref 229, .int x, .int y, .int z] (mS I J) = some (some (.int (v_act (I 230) W H x y z).1), mS I' J) := by
  have e0 : am_cal (d + 9) 266 [.ref 229, .int x, .int y, .int z] (mS I J) = _ := c_266 lc_229
  simp only [lc_229, lc_229, lr_229_0, lc_230, ll_230, bq_s, mS_c, mS_l, mS_r, mS_i, mS_j, mS_pi, mS_pj, lt_st, bq_s, bV_s, bI_s, bJ_s, bA_s, nz_0, nc_0, nz_1, nc_1, nz_2, nc_2, nz_3, nc_3, nz_4, nc_4, nz_5, nc_5, nz_6, nc_6, nz_7, nc_7, nz_8, nc_8, nz_9, nc_9, nz_10, nc_10, nz_11, nc_11, nz_12, nc_12, if_true, if_false, eq_self, true_and, and_true, false_or, or_false, true_or, or_true, false_and, and_false, not_true, not_false_eq_true, ne_eq, ite_self, ite_not, ↓reduceIte] at e0
  rw [m245, bI_s] at e0
  generalize hI0 : wI I 229 35 (nI 0) = I0 at e0
  have f0 : ∀ a, a ≠ 229 → I0 a = I a := fun c h => by rw [← hI0, wI_F1 c h]
  have f1 : ∀ j, j ≠ 35 → I0 229 j = I 229 j := fun j h => by rw [← hI0, wI_nk h]
  have g35 : I0 229 35 = nI 0 := by rw [← hI0, wI_eq]
  have h230 : I0 230 = I 230 := f0 230 (by decide)
  have none' : ¬ okAc (I 230) W H x y → ∀ I1, ((∀ a, a ≠ 229 → I1 a = I0 a) ∧ ∀ j, (j < 31 ∨ 33 < j) → I1 229 j = I0 229 j) → am_cal (d + 9) 266 [.ref 229, .int x, .int y, .int z] (mS I J) = some (some (.int (nI 0)), mS I1 J) → ∃ I', ((∀ a, a ≠ 229 → a ≠ 248 → I' a = I a) ∧ ∀ j, (j < 31 ∨ 36 < j) → I' 229 j = I 229 j) ∧ TrM I' (v_act (I 230) W H x y z).2.1 (v_act (I 230) W H x y z).2.2.1 ∧ am_cal (d + 9) 266 [.ref 229, .int x, .int y, .int z] (mS I J) = some (some (.int (v_act (I 230) W H x y z).1), mS I' J) := fun hn I1 h1 h => by
    unfold v_act
    rw [if_neg hn]
    exact ⟨I1, ⟨fun a ha _ => by rw [h1.1 a ha, f0 a ha], fun j hj => by rw [h1.2 j (by omega), f1 j (by omega)]⟩, ⟨by rw [h1.2 35 (by omega)]; exact g35, by decide, fun j hj => absurd hj (Nat.not_lt_zero j)⟩, h⟩
  by_cases hx : isSh x
  · rw [if_pos hx, if_neg (by decide), m151 (by decide) (by decide), bI_s] at e0
    by_cases hy : ¬ y < nI 0 ∧ ¬ nI 3 < y
    · rw [if_pos hy, if_neg (by decide)] at e0
      have hy' : ¬ y < 0 ∧ ¬ nI 3 < y := by rw [n_i0]; exact hy
      obtain ⟨q, hq, rfl⟩ := isSh_n hx
      have i0c : (nI (q)).toNatClampNeg = q := nI_clamp (by omega)
      have i0z : (nI (q) < 0) = False := n_ge0 (by omega)
      have i0l : (4 ≤ q) = False := n_lef (by omega)
      have hL0 : SlM I0 W H Y := hL.fr (f0 245 (by decide)) (f0 246 (by decide)) (f0 247 (by decide))
      obtain ⟨I1, a1, a2, a3, a4, a5⟩ := m253 (I := I0) (d := d + 5) (J := J) hL0 (by rw [h230]; exact hW) hq
      rw [h230] at a3 a4
      rw [show d + 8 = d + 5 + 3 from rfl, a5, bV_s, if_pos (show am_c (mS I1 J) 229 = 12 from lc_229)] at e0
      by_cases hh : hd (I 230) W H q < 2
      · obtain ⟨b1, b2⟩ := a3 hh
        obtain ⟨k, j1, j7, ek⟩ := kd_rng hW hh
        have kc : (nI k).toNatClampNeg = k := nI_clamp (by omega)
        have ho : okAc (I 230) W H (nI q) y := ⟨hx, hy', by rw [i0c]; exact hh⟩
        have hn0 : ¬ I1 229 31 < 0 := by rw [b1, ek]; exact nI_pos (by omega)
        have h32 : I1 229 32 = H q := by
          rw [a2]
          refine (hL0 q hq).2.2.1 (fun hw => ?_)
          unfold hd at hh
          rw [if_neg (by omega), if_neg (by omega)] at hh; omega
        have e1 := e0
        rw [if_neg (show ¬ am_i (mS I1 J) 229 31 < 0 from hn0)] at e1
        simp only [lc_229, lc_229, lr_229_0, lc_230, ll_230, bq_s, mS_c, mS_l, mS_r, mS_i, mS_j, mS_pi, mS_pj, lt_st, bq_s, bV_s, bI_s, bJ_s, bA_s, nz_0, nc_0, nz_1, nc_1, nz_2, nc_2, nz_3, nc_3, nz_4, nc_4, nz_5, nc_5, nz_6, nc_6, nz_7, nc_7, nz_8, nc_8, nz_9, nc_9, nz_10, nc_10, nz_11, nc_11, nz_12, nc_12, if_true, if_false, eq_self, true_and, and_true, false_or, or_false, true_or, or_true, false_and, and_false, not_true, not_false_eq_true, ne_eq, ite_self, ite_not, ↓reduceIte] at e1
        generalize hI2 : wI I1 229 36 (nI 0) = I2 at e1
        have f2 : ∀ a, a ≠ 229 → I2 a = I1 a := fun c h => by rw [← hI2, wI_F1 c h]
        have f3 : ∀ j, j ≠ 36 → I2 229 j = I1 229 j := fun j h => by rw [← hI2, wI_nk h]
        have hA : AM I2 k (H q) (ab (I 230) W H q) st0 := ⟨by rw [f3 31 (by decide), b1, ek], by rw [f3 32 (by decide), h32], by rw [f3 33 (by decide), b2], by rw [f3 35 (by decide), a1.2 35 (by omega), g35]; rfl, by decide, fun j hj => absurd hj (Nat.not_lt_zero j), by rw [← hI2, wI_eq]; rfl, fun _ => rfl⟩
        unfold v_act
        rw [if_pos ho, i0c, ek, kc]
        have fin : ∀ (F : Int32 × As) (I3 : mI), actF k (H q) (ab (I 230) W H q) y z = F → FMA I3 I2 → AM I3 k (H q) (ab (I 230) W H q) F.2 → am_cal (d + 9) 266 [.ref 229, .int (nI q), .int y, .int z] (mS I J) = am_X (am_cal (d + 8)) 266 48 [.ref 229, .null, .null, .null, .null] [.int F.1] (mS I3 J) → ∃ I', ((∀ a, a ≠ 229 → a ≠ 248 → I' a = I a) ∧ ∀ j, (j < 31 ∨ 36 < j) → I' 229 j = I 229 j) ∧ TrM I' (actV k (H q) (ab (I 230) W H q) y z).2.1 (actV k (H q) (ab (I 230) W H q) y z).2.2.1 ∧ am_cal (d + 9) 266 [.ref 229, .int (nI q), .int y, .int z] (mS I J) = some (some (.int (actV k (H q) (ab (I 230) W H q) y z).1), mS I' J) := fun F I3 hF hf hA3 h => by
          obtain ⟨k2, k3, k4, k1, kr, kT, k5, kz⟩ := hA3
          unfold actV
          rw [hF]
          refine ⟨I3, ⟨fun a h1 h2 => by rw [hf.1 a h1 h2, f2 a h1, a1.1 a h1, f0 a h1], fun j hj => by rw [hf.2 j (by omega) (by omega), f3 j (by omega), a1.2 j (by omega), f1 j (by omega)]⟩, ⟨k1, kr, kT⟩, ?_⟩
          rw [h, e_266_48, if_pos lc_229, k5, o_if]
        by_cases y0 : y = nI 0
        · rw [if_pos (by rw [n_i0]; exact y0)] at e1
          obtain ⟨I3, c1, c2, c3⟩ := q259 j1 j7 I2 J (d + 4) z st0 hA
          rw [c3, bI_s] at e1
          exact fin (fB k (H q) (ab (I 230) W H q) z st0) I3 (by unfold actF; rw [if_pos y0]) c1 c2 e1
        · rw [if_neg (by rw [n_i0]; exact y0)] at e1
          by_cases y1 : y = nI 1
          · rw [if_pos y1] at e1
            obtain ⟨I3, c1, c2, c3⟩ := q261 j1 j7 I2 J (d + 2) z st0 hA
            rw [c3, bI_s] at e1
            exact fin (fK k (H q) (ab (I 230) W H q) z st0) I3 (by unfold actF; rw [if_neg y0, if_pos y1]) c1 c2 e1
          · rw [if_neg y1] at e1
            by_cases y2 : y = nI 2
            · rw [if_pos y2] at e1
              obtain ⟨I3, c1, c2, c3⟩ := q263 j1 j7 I2 J (d + 5) z st0 hA
              rw [c3, bI_s] at e1
              exact fin (fS k (H q) (ab (I 230) W H q) z st0) I3 (by unfold actF; rw [if_neg y0, if_neg y1, if_pos y2]) c1 c2 e1
            · rw [if_neg y2] at e1
              obtain ⟨I3, c1, c2, c3⟩ := q265 j1 j7 I2 J d z st0 hA
              rw [c3, bI_s] at e1
              exact fin (fT k (H q) (ab (I 230) W H q) z st0) I3 (by unfold actF; rw [if_neg y0, if_neg y1, if_neg y2]) c1 c2 e1
      · have h31 := a4 hh
        rw [if_pos (show am_i (mS I1 J) 229 31 < 0 by show I1 229 31 < 0; rw [h31]; decide)] at e0
        exact none' (fun h => hh (by have := h.2.2; rw [i0c] at this; exact this)) I1 a1 e0
    · rw [if_neg hy, if_pos nI_0] at e0
      exact none' (fun h => hy (by rw [← n_i0]; exact h.2.1)) I0 ⟨fun _ _ => rfl, fun _ _ => rfl⟩ e0
  · rw [if_neg hx, if_pos nI_0] at e0
    exact none' (fun h => hx h.1) I0 ⟨fun _ _ => rfl, fun _ _ => rfl⟩ e0
end I11s
