/-! ===== row, alterRow ===== -/
abbrev okRo (m : Nat) (x y : Int32) : Prop := (¬ x < 0 ∧ x < nI m) ∧ ¬ y < 0 ∧ ¬ nI 2 < y
def v_row (m : Nat) (R : Nat → Nat → Int64) (x y : Int32) : Int64 := if okRo m x y then R x.toNatClampNeg y.toNatClampNeg else Int64.ofInt (-9)
section H8s
variable {I I' : mI} {J : mJ} {s s' t : Rw} {w p q e c d k n g a b l m : Nat} {x y z u v sort key : Int32} {R : Nat → Nat → Int64} {L : Int64}
theorem k126 (h18 : I 0 18 = nI m) : am_cal (d + 1) 126 [.ref 0, .int x, .int y] (mS I J) = some (some (.int (if okRo m x y then nI 1 else nI 0)), mS I J) := by
  rw [c_126 lc_0]
  simp only [lc_0, h18, bq_s, mS_c, mS_l, mS_r, mS_i, mS_j, mS_pi, mS_pj, lt_st, bq_s, bV_s, bI_s, bJ_s, bA_s, nz_0, nc_0, nz_1, nc_1, nz_2, nc_2, nz_3, nc_3, nz_4, nc_4, nz_5, nc_5, nz_6, nc_6, nz_7, nc_7, nz_8, nc_8, nz_9, nc_9, nz_10, nc_10, nz_11, nc_11, nz_12, nc_12, if_true, if_false, eq_self, true_and, and_true, false_or, or_false, true_or, or_true, false_and, and_false, not_true, not_false_eq_true, ne_eq, ite_self, ite_not, ↓reduceIte, n_101, n_107, n_11]
  by_cases h1 : x < 0
  · rw [if_pos h1, if_neg (fun h => h.1.1 h1)]
  · rw [if_neg h1]
    by_cases h2 : x < nI m
    · rw [if_pos h2]
      by_cases h3 : y < 0
      · rw [if_pos h3, if_neg (fun h => h.2.1 h3)]
      · rw [if_neg h3]
        by_cases h4 : nI 2 < y
        · rw [if_pos h4, if_neg (fun h => h.2.2 h4)]
        · rw [if_neg h4, if_pos (show okRo m x y from ⟨⟨h1, h2⟩, h3, h4⟩)]
    · rw [if_neg h2, if_neg (fun h => h2 h.1.2)]
theorem okRo_n (hm : m ≤ 12) (h : okRo m x y) : ∃ r i, r < m ∧ i < 3 ∧ x = nI r ∧ y = nI i := by
  obtain ⟨⟨a, b⟩, c, d⟩ := h
  obtain ⟨r, hr, rfl⟩ := n_below (show m < 2 ^ 31 by omega) a b
  obtain ⟨i, hi, rfl⟩ := nI_of c
  rw [n_lt (by decide) hi] at d
  exact ⟨r, i, hr, by omega, rfl, rfl⟩
theorem k123 (hm : m ≤ 12) (h18 : I 0 18 = nI m) (hJ : ∀ r, r < m → ∀ i, i < 3 → J (208 + r) i = R r i) : am_cal (d + 2) 123 [.ref 0, .int x, .int y] (mS I J) = some (some (.long (v_row m R x y)), mS I J) := by
  rw [c_123 lc_0, k126 h18, bI_s]
  unfold v_row
  by_cases h : okRo m x y
  · rw [if_pos h, if_pos h]
    obtain ⟨r, i, hr, hi, rfl, rfl⟩ := okRo_n hm h
    have hr12 : r < 12 := by omega
    have i0c : (nI (r)).toNatClampNeg = r := nI_clamp (by omega)
    have i0z : (nI (r) < 0) = False := n_ge0 (by omega)
    have i0l : (12 ≤ r) = False := n_lef (by omega)
    have i1c : (nI (i)).toNatClampNeg = i := nI_clamp (by omega)
    have i1z : (nI (i) < 0) = False := n_ge0 (by omega)
    have i1l : (3 ≤ i) = False := n_lef (by omega)
    obtain ⟨cr, lr⟩ := cl_208 hr12
    simp only [z_f, lc_0, lr_0_10, lc_207, ll_207, r_207 hr12, cr, lr, i0c, i0z, i0l, i1c, i1z, i1l, hJ r hr i hi, show (103 ≤ 182 ∧ 182 < 200) = True from eq_true (by decide), bq_s, mS_c, mS_l, mS_r, mS_i, mS_j, mS_pi, mS_pj, lt_st, bq_s, bV_s, bI_s, bJ_s, bA_s, nz_0, nc_0, nz_1, nc_1, nz_2, nc_2, nz_3, nc_3, nz_4, nc_4, nz_5, nc_5, nz_6, nc_6, nz_7, nc_7, nz_8, nc_8, nz_9, nc_9, nz_10, nc_10, nz_11, nc_11, nz_12, nc_12, if_true, if_false, eq_self, true_and, and_true, false_or, or_false, true_or, or_true, false_and, and_false, not_true, not_false_eq_true, ne_eq, ite_self, ite_not, ↓reduceIte, n_101, n_107, n_11]
  · rw [if_neg h, if_neg h, if_pos nI_0]
theorem k124 (hm : m ≤ 12) (h18 : I 0 18 = nI m) (hJ : ∀ r, r < m → ∀ i, i < 3 → J (208 + r) i = R r i) : am_cal (d + 2) 124 [.ref 0, .int x, .int y, .long L] (mS I J) = some (some (.long (v_row m R x y)), mS I (if okRo m x y then wJ J (208 + x.toNatClampNeg) y.toNatClampNeg L else J)) := by
  rw [c_124 lc_0, k126 h18, bI_s]
  unfold v_row
  by_cases h : okRo m x y
  · rw [if_pos h, if_pos h, if_pos h]
    obtain ⟨r, i, hr, hi, rfl, rfl⟩ := okRo_n hm h
    have hr12 : r < 12 := by omega
    have i0c : (nI (r)).toNatClampNeg = r := nI_clamp (by omega)
    have i0z : (nI (r) < 0) = False := n_ge0 (by omega)
    have i0l : (12 ≤ r) = False := n_lef (by omega)
    have i1c : (nI (i)).toNatClampNeg = i := nI_clamp (by omega)
    have i1z : (nI (i) < 0) = False := n_ge0 (by omega)
    have i1l : (3 ≤ i) = False := n_lef (by omega)
    obtain ⟨cr, lr⟩ := cl_208 hr12
    simp only [z_f, lc_0, lr_0_10, lc_207, ll_207, r_207 hr12, cr, lr, i0c, i0z, i0l, i1c, i1z, i1l, hJ r hr i hi, show (103 ≤ 182 ∧ 182 < 200) = True from eq_true (by decide), bq_s, mS_c, mS_l, mS_r, mS_i, mS_j, mS_pi, mS_pj, lt_st, bq_s, bV_s, bI_s, bJ_s, bA_s, nz_0, nc_0, nz_1, nc_1, nz_2, nc_2, nz_3, nc_3, nz_4, nc_4, nz_5, nc_5, nz_6, nc_6, nz_7, nc_7, nz_8, nc_8, nz_9, nc_9, nz_10, nc_10, nz_11, nc_11, nz_12, nc_12, if_true, if_false, eq_self, true_and, and_true, false_or, or_false, true_or, or_true, false_and, and_false, not_true, not_false_eq_true, ne_eq, ite_self, ite_not, ↓reduceIte, n_101, n_107, n_11]
  · rw [if_neg h, if_neg h, if_neg h, if_pos nI_0]
theorem pr_lt (hm : m ≤ 30) (hx : ¬ x < 0) : (¬ nI m - nI 1 < x) ↔ x < nI m := by
  obtain ⟨j, hj, rfl⟩ := nI_of hx
  rw [n_lt hj (by omega)]
  cases m with
  | zero =>
    have e : nI 0 - nI 1 = Int32.ofInt (-1) := by decide
    have h : Int32.ofInt (-1) < nI j := by
      have h1 : Int32.ofInt (-1) < (0 : Int32) := by decide
      by_cases h0 : (0 : Int32) < nI j
      · exact Int32.lt_trans h1 h0
      · have : j = 0 := by
          rw [n_i0, n_lt (by decide) hj] at h0
          omega
        rw [this]; decide
    rw [e]
    exact ⟨fun hh => absurd h hh, fun hh => absurd hh (by omega)⟩
  | succ m =>
    have e : nI (m + 1) - nI 1 = nI m := n_pred
    rw [e, n_lt (by omega) hj]
    omega
theorem m242 (hm : m ≤ 12) (h24 : I 229 24 = nI m) (hJ : ∀ r, r < m → ∀ i, i < 3 → J 241 (3 * r + i) = R r i) : am_cal (d + 2) 242 [.ref 229, .int x, .int y] (mS I J) = some (some (.long (v_row m R x y)), mS I J) := by
  rw [c_242 lc_229, if_pos lc_229, h24, m151h, bI_s]
  unfold v_row
  by_cases h1 : ¬ x < 0 ∧ ¬ nI m - nI 1 < x
  · rw [if_pos h1, if_neg (by decide), m151 (by decide) (by decide), bI_s]
    have h1' : ¬ x < 0 ∧ x < nI m := ⟨h1.1, (pr_lt (show m ≤ 30 by omega) h1.1).mp h1.2⟩
    by_cases h2 : ¬ y < nI 0 ∧ ¬ nI 2 < y
    · have h2' : ¬ y < 0 ∧ ¬ nI 2 < y := by rw [n_i0]; exact h2
      rw [if_pos h2, if_pos (show okRo m x y from ⟨h1', h2'⟩)]
      obtain ⟨r, i, hr, hi, rfl, rfl⟩ := okRo_n hm ⟨h1', h2'⟩
      have b0 : nI 3 * nI r + nI i = nI (3 * r + i) := by rw [pk_mul, nI_add]
      have cr : (nI r).toNatClampNeg = r := nI_clamp (by omega)
      have ci : (nI i).toNatClampNeg = i := nI_clamp (by omega)
      have i0c : (nI (3 * r + i)).toNatClampNeg = 3 * r + i := nI_clamp (by omega)
      have i0z : (nI (3 * r + i) < 0) = False := n_ge0 (by omega)
      have i0l : (36 ≤ 3 * r + i) = False := n_lef (by omega)
      simp only [z_f, lr_229_23, lc_241, ll_241, b0, cr, ci, i0c, i0z, i0l, hJ r hr i hi, lc_229, lc_229, lr_229_0, lc_230, ll_230, bq_s, mS_c, mS_l, mS_r, mS_i, mS_j, mS_pi, mS_pj, lt_st, bq_s, bV_s, bI_s, bJ_s, bA_s, nz_0, nc_0, nz_1, nc_1, nz_2, nc_2, nz_3, nc_3, nz_4, nc_4, nz_5, nc_5, nz_6, nc_6, nz_7, nc_7, nz_8, nc_8, nz_9, nc_9, nz_10, nc_10, nz_11, nc_11, nz_12, nc_12, if_true, if_false, eq_self, true_and, and_true, false_or, or_false, true_or, or_true, false_and, and_false, not_true, not_false_eq_true, ne_eq, ite_self, ite_not, ↓reduceIte]
    · rw [if_neg h2, if_neg (show ¬ okRo m x y from fun h => h2 (by rw [← n_i0]; exact h.2))]
      simp only [z_t, lc_229, lr_229_0, lc_230, ll_230, bq_s, mS_c, mS_l, mS_r, mS_i, mS_j, mS_pi, mS_pj, lt_st, bq_s, bV_s, bI_s, bJ_s, bA_s, nz_0, nc_0, nz_1, nc_1, nz_2, nc_2, nz_3, nc_3, nz_4, nc_4, nz_5, nc_5, nz_6, nc_6, nz_7, nc_7, nz_8, nc_8, nz_9, nc_9, nz_10, nc_10, nz_11, nc_11, nz_12, nc_12, if_true, if_false, eq_self, true_and, and_true, false_or, or_false, true_or, or_true, false_and, and_false, not_true, not_false_eq_true, ne_eq, ite_self, ite_not, ↓reduceIte]
  · rw [if_neg h1, if_pos nI_0, if_neg (fun h => h1 ⟨h.1.1, (pr_lt (show m ≤ 30 by omega) h.1.1).mpr h.1.2⟩)]
theorem m243 (hm : m ≤ 12) (h24 : I 229 24 = nI m) (hJ : ∀ r, r < m → ∀ i, i < 3 → J 241 (3 * r + i) = R r i) : am_cal (d + 2) 243 [.ref 229, .int x, .int y, .long L] (mS I J) = some (some (.long (v_row m R x y)), mS I (if okRo m x y then wJ J 241 (3 * x.toNatClampNeg + y.toNatClampNeg) L else J)) := by
  rw [c_243 lc_229, if_pos lc_229, h24, m151h, bI_s]
  unfold v_row
  by_cases h1 : ¬ x < 0 ∧ ¬ nI m - nI 1 < x
  · rw [if_pos h1, if_neg (by decide), m151 (by decide) (by decide), bI_s]
    have h1' : ¬ x < 0 ∧ x < nI m := ⟨h1.1, (pr_lt (show m ≤ 30 by omega) h1.1).mp h1.2⟩
    by_cases h2 : ¬ y < nI 0 ∧ ¬ nI 2 < y
    · have h2' : ¬ y < 0 ∧ ¬ nI 2 < y := by rw [n_i0]; exact h2
      rw [if_pos h2, if_pos (show okRo m x y from ⟨h1', h2'⟩), if_pos (show okRo m x y from ⟨h1', h2'⟩)]
      obtain ⟨r, i, hr, hi, rfl, rfl⟩ := okRo_n hm ⟨h1', h2'⟩
      have b0 : nI 3 * nI r + nI i = nI (3 * r + i) := by rw [pk_mul, nI_add]
      have cr : (nI r).toNatClampNeg = r := nI_clamp (by omega)
      have ci : (nI i).toNatClampNeg = i := nI_clamp (by omega)
      have i0c : (nI (3 * r + i)).toNatClampNeg = 3 * r + i := nI_clamp (by omega)
      have i0z : (nI (3 * r + i) < 0) = False := n_ge0 (by omega)
      have i0l : (36 ≤ 3 * r + i) = False := n_lef (by omega)
      simp only [z_f, lr_229_23, lc_241, ll_241, b0, cr, ci, i0c, i0z, i0l, hJ r hr i hi, lc_229, lc_229, lr_229_0, lc_230, ll_230, bq_s, mS_c, mS_l, mS_r, mS_i, mS_j, mS_pi, mS_pj, lt_st, bq_s, bV_s, bI_s, bJ_s, bA_s, nz_0, nc_0, nz_1, nc_1, nz_2, nc_2, nz_3, nc_3, nz_4, nc_4, nz_5, nc_5, nz_6, nc_6, nz_7, nc_7, nz_8, nc_8, nz_9, nc_9, nz_10, nc_10, nz_11, nc_11, nz_12, nc_12, if_true, if_false, eq_self, true_and, and_true, false_or, or_false, true_or, or_true, false_and, and_false, not_true, not_false_eq_true, ne_eq, ite_self, ite_not, ↓reduceIte]
    · rw [if_neg h2, if_neg (show ¬ okRo m x y from fun h => h2 (by rw [← n_i0]; exact h.2)), if_neg (show ¬ okRo m x y from fun h => h2 (by rw [← n_i0]; exact h.2))]
      simp only [z_t, lc_229, lr_229_0, lc_230, ll_230, bq_s, mS_c, mS_l, mS_r, mS_i, mS_j, mS_pi, mS_pj, lt_st, bq_s, bV_s, bI_s, bJ_s, bA_s, nz_0, nc_0, nz_1, nc_1, nz_2, nc_2, nz_3, nc_3, nz_4, nc_4, nz_5, nc_5, nz_6, nc_6, nz_7, nc_7, nz_8, nc_8, nz_9, nc_9, nz_10, nc_10, nz_11, nc_11, nz_12, nc_12, if_true, if_false, eq_self, true_and, and_true, false_or, or_false, true_or, or_true, false_and, and_false, not_true, not_false_eq_true, ne_eq, ite_self, ite_not, ↓reduceIte]
  · rw [if_neg h1, if_pos nI_0, if_neg (fun h => h1 ⟨h.1.1, (pr_lt (show m ≤ 30 by omega) h.1.1).mpr h.1.2⟩), if_neg (fun h => h1 ⟨h.1.1, (pr_lt (show m ≤ 30 by omega) h.1.1).mpr h.1.2⟩)]
end H8s
