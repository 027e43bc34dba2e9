/-! ===== sheets: put, item; the model's sheet ===== -/
abbrev okPt (S : Nat → Int32) (Z : Nat → Nat) (x y : Int32) : Prop := isSh x ∧ ¬ S x.toNatClampNeg = (Int32.ofInt (-1)) ∧ (¬ y < 0 ∧ y < nI (Z x.toNatClampNeg))
def v_put (S : Nat → Int32) (Z : Nat → Nat) (x y : Int32) : Int32 := if isSh x then (if S x.toNatClampNeg = (Int32.ofInt (-1)) then Int32.ofInt (-11) else if ¬ y < 0 ∧ y < nI (Z x.toNatClampNeg) then nI 1 else Int32.ofInt (-12)) else (Int32.ofInt (-1))
def tr_P (S : Nat → Int32) (Z : Nat → Nat) (T : Nat → Nat → Int32) (x y z : Int32) : Nat → Nat → Int32 := if okPt S Z x y then upA T x.toNatClampNeg (upA (T x.toNatClampNeg) y.toNatClampNeg (v_nar (S x.toNatClampNeg) z)) else T
def v_item (S : Nat → Int32) (Z : Nat → Nat) (T : Nat → Nat → Int32) (x y z : Int32) : Int32 := if isSh x ∧ ¬ y < 0 ∧ ¬ nI 4 < y then (if S x.toNatClampNeg = (Int32.ofInt (-1)) then Int32.ofInt (-11) else if S x.toNatClampNeg = y then (if ¬ z < 0 ∧ z < nI (Z x.toNatClampNeg) then T x.toNatClampNeg z.toNatClampNeg else Int32.ofInt (-12)) else Int32.ofInt (-13)) else (Int32.ofInt (-1))
section I3s
variable {I I' : mI} {J : mJ} {d k n q p i : Nat} {x y z u v : Int32} {S : Nat → Int32} {Z : Nat → Nat} {T : Nat → Nat → Int32}
theorem k129 (hw : wfS S Z) (hC : ShC I S Z T) : ∃ I', FS I' I ∧ ShC I' S Z (tr_P S Z T x y z) ∧ am_cal (d + 2) 129 [.ref 0, .int x, .int y, .int z] (mS I J) = some (some (.int (v_put S Z x y)), mS I' J) := by
  unfold tr_P v_put
  by_cases hx : isSh x
  · rw [if_pos hx]
    obtain ⟨q, hq, rfl⟩ := isSh_n hx
    have i0c : (nI (q)).toNatClampNeg = q := nI_clamp (by omega)
    have i0z : (nI (q) < 0) = False := n_ge0 (by omega)
    have i0l : (4 ≤ q) = False := n_lef (by omega)
    obtain ⟨c1, c2⟩ := hC q hq
    by_cases h1 : S q = (Int32.ofInt (-1))
    · simp only [i0c]
      rw [if_pos h1, if_neg (fun h => h.2.1 (by rw [i0c]; exact h1))]
      refine ⟨I, fun _ _ => rfl, hC, ?_⟩
      rw [h1] at c1
      rw [c_129 lc_0, k145, bI_s, if_pos hx]
      simp only [z_f, lc_0, lr_0_12, lc_225, ll_225, i0c, i0z, i0l, c1, bq_s, mS_c, mS_l, mS_r, mS_i, mS_j, mS_pi, mS_pj, lt_st, bq_s, bV_s, bI_s, bJ_s, bA_s, nz_0, nc_0, nz_1, nc_1, nz_2, nc_2, nz_3, nc_3, nz_4, nc_4, nz_5, nc_5, nz_6, nc_6, nz_7, nc_7, nz_8, nc_8, nz_9, nc_9, nz_10, nc_10, nz_11, nc_11, nz_12, nc_12, if_true, if_false, eq_self, true_and, and_true, false_or, or_false, true_or, or_true, false_and, and_false, not_true, not_false_eq_true, ne_eq, ite_self, ite_not, ↓reduceIte, n_101, n_107, n_11]
    · obtain ⟨c3, c4⟩ := c2 h1
      simp only [i0c]
      rw [if_neg h1]
      by_cases hy : y < 0
      · rw [if_neg (fun h => h.2.2.1 hy), if_neg (fun h => h.1 hy)]
        refine ⟨I, fun _ _ => rfl, hC, ?_⟩
        rw [c_129 lc_0, k145, bI_s, if_pos hx]
        simp only [z_f, lc_0, lr_0_12, lc_225, ll_225, i0c, i0z, i0l, c1, if_neg h1, if_pos hy, bq_s, mS_c, mS_l, mS_r, mS_i, mS_j, mS_pi, mS_pj, lt_st, bq_s, bV_s, bI_s, bJ_s, bA_s, nz_0, nc_0, nz_1, nc_1, nz_2, nc_2, nz_3, nc_3, nz_4, nc_4, nz_5, nc_5, nz_6, nc_6, nz_7, nc_7, nz_8, nc_8, nz_9, nc_9, nz_10, nc_10, nz_11, nc_11, nz_12, nc_12, if_true, if_false, eq_self, true_and, and_true, false_or, or_false, true_or, or_true, false_and, and_false, not_true, not_false_eq_true, ne_eq, ite_self, ite_not, ↓reduceIte, n_101, n_107, n_11]
      · by_cases hz : y < nI (Z q)
        · rw [if_pos (show okPt S Z (nI q) y from ⟨hx, by rw [i0c]; exact h1, hy, by rw [i0c]; exact hz⟩), if_pos ⟨hy, hz⟩]
          have hZ := (hw q hq).2
          obtain ⟨i, hi, rfl⟩ := n_below (show Z q < 2 ^ 31 by omega) hy hz
          have i1c : (nI (i)).toNatClampNeg = i := nI_clamp (by omega)
          have i1z : (nI (i) < 0) = False := n_ge0 (by omega)
          have i1l : (40 ≤ i) = False := n_lef (by omega)
          rw [i1c]
          refine ⟨wI I (221 + q) i (v_nar (S q) z), fun a ha => wI_F1 a (by omega), fun p hp => ?_, ?_⟩
          · rw [wI_F1 225 (by omega), wI_F1 226 (by omega)]
            by_cases e : p = q
            · subst e
              refine ⟨c1, fun h => ⟨c3, fun k hk => ?_⟩⟩
              rw [upA_eq]
              by_cases ek : k = i
              · subst ek; rw [wI_eq, upA_eq]
              · rw [wI_nk ek, upA_ne ek]; exact c4 k hk
            · rw [upA_ne e, wI_F1 (221 + p) (by omega)]
              exact hC p hp
          · rw [c_129 lc_0, k145, bI_s, if_pos hx]
            simp only [z_f, lc_0, lr_0_11, lr_0_12, lr_0_13, lc_226, ll_226, lc_225, ll_225, lc_220_ok, ll_220, sh_r hq, sh_c hq, sh_l hq, i0c, i0z, i0l, i1c, i1z, i1l, c1, c3, if_neg h1, if_neg hy, if_pos hz, k144, bq_s, mS_c, mS_l, mS_r, mS_i, mS_j, mS_pi, mS_pj, lt_st, bq_s, bV_s, bI_s, bJ_s, bA_s, nz_0, nc_0, nz_1, nc_1, nz_2, nc_2, nz_3, nc_3, nz_4, nc_4, nz_5, nc_5, nz_6, nc_6, nz_7, nc_7, nz_8, nc_8, nz_9, nc_9, nz_10, nc_10, nz_11, nc_11, nz_12, nc_12, if_true, if_false, eq_self, true_and, and_true, false_or, or_false, true_or, or_true, false_and, and_false, not_true, not_false_eq_true, ne_eq, ite_self, ite_not, ↓reduceIte, n_101, n_107, n_11]
        · rw [if_neg (fun h => hz (by rw [← i0c]; exact h.2.2.2)), if_neg (fun h => hz h.2)]
          refine ⟨I, fun _ _ => rfl, hC, ?_⟩
          rw [c_129 lc_0, k145, bI_s, if_pos hx]
          simp only [z_f, lc_0, lr_0_12, lr_0_13, lc_226, ll_226, lc_225, ll_225, i0c, i0z, i0l, c1, c3, if_neg h1, if_neg hy, if_neg hz, bq_s, mS_c, mS_l, mS_r, mS_i, mS_j, mS_pi, mS_pj, lt_st, bq_s, bV_s, bI_s, bJ_s, bA_s, nz_0, nc_0, nz_1, nc_1, nz_2, nc_2, nz_3, nc_3, nz_4, nc_4, nz_5, nc_5, nz_6, nc_6, nz_7, nc_7, nz_8, nc_8, nz_9, nc_9, nz_10, nc_10, nz_11, nc_11, nz_12, nc_12, if_true, if_false, eq_self, true_and, and_true, false_or, or_false, true_or, or_true, false_and, and_false, not_true, not_false_eq_true, ne_eq, ite_self, ite_not, ↓reduceIte, n_101, n_107, n_11]
  · rw [if_neg hx, if_neg (fun h => hx h.1)]
    refine ⟨I, fun _ _ => rfl, hC, ?_⟩
    rw [c_129 lc_0, k145, bI_s, if_neg hx, if_pos nI_0]
theorem k130 (hw : wfS S Z) (hC : ShC I S Z T) : am_cal (d + 2) 130 [.ref 0, .int x, .int y, .int z] (mS I J) = some (some (.int (v_item S Z T x y z)), mS I J) := by
  unfold v_item
  by_cases hx : isSh x
  · skip
    by_cases h0 : y < 0
    · rw [c_130 lc_0, k145, bI_s, if_pos hx, if_neg (by decide), if_pos h0, if_neg (fun h => h.2.1 h0)]
    · skip
      by_cases h4 : nI 4 < y
      · rw [c_130 lc_0, k145, bI_s, if_pos hx, if_neg (by decide), if_neg h0, if_pos h4, if_neg (fun h => h.2.2 h4)]
      · rw [if_pos (show isSh x ∧ ¬ y < 0 ∧ ¬ nI 4 < y from ⟨hx, h0, h4⟩)]
        obtain ⟨q, hq, rfl⟩ := isSh_n hx
        have i0c : (nI (q)).toNatClampNeg = q := nI_clamp (by omega)
        have i0z : (nI (q) < 0) = False := n_ge0 (by omega)
        have i0l : (4 ≤ q) = False := n_lef (by omega)
        obtain ⟨c1, c2⟩ := hC q hq
        by_cases h1 : S q = (Int32.ofInt (-1))
        · rw [i0c, if_pos h1]
          rw [h1] at c1
          rw [c_130 lc_0, k145, bI_s, if_pos hx]
          simp only [z_f, if_neg h0, if_neg h4, lc_0, lr_0_12, lc_225, ll_225, i0c, i0z, i0l, c1, bq_s, mS_c, mS_l, mS_r, mS_i, mS_j, mS_pi, mS_pj, lt_st, bq_s, bV_s, bI_s, bJ_s, bA_s, nz_0, nc_0, nz_1, nc_1, nz_2, nc_2, nz_3, nc_3, nz_4, nc_4, nz_5, nc_5, nz_6, nc_6, nz_7, nc_7, nz_8, nc_8, nz_9, nc_9, nz_10, nc_10, nz_11, nc_11, nz_12, nc_12, if_true, if_false, eq_self, true_and, and_true, false_or, or_false, true_or, or_true, false_and, and_false, not_true, not_false_eq_true, ne_eq, ite_self, ite_not, ↓reduceIte, n_101, n_107, n_11]
        · obtain ⟨c3, c4⟩ := c2 h1
          rw [i0c, if_neg h1]
          by_cases hs : S q = y
          · rw [if_pos hs]
            by_cases hz0 : z < 0
            · rw [if_neg (fun h => h.1 hz0)]
              rw [c_130 lc_0, k145, bI_s, if_pos hx]
              simp only [z_f, if_neg h0, if_neg h4, lc_0, lr_0_12, lc_225, ll_225, i0c, i0z, i0l, c1, if_neg h1, if_pos hs, if_pos hz0, bq_s, mS_c, mS_l, mS_r, mS_i, mS_j, mS_pi, mS_pj, lt_st, bq_s, bV_s, bI_s, bJ_s, bA_s, nz_0, nc_0, nz_1, nc_1, nz_2, nc_2, nz_3, nc_3, nz_4, nc_4, nz_5, nc_5, nz_6, nc_6, nz_7, nc_7, nz_8, nc_8, nz_9, nc_9, nz_10, nc_10, nz_11, nc_11, nz_12, nc_12, if_true, if_false, eq_self, true_and, and_true, false_or, or_false, true_or, or_true, false_and, and_false, not_true, not_false_eq_true, ne_eq, ite_self, ite_not, ↓reduceIte, n_101, n_107, n_11]
            · by_cases hz : z < nI (Z q)
              · rw [if_pos ⟨hz0, hz⟩]
                have hZ := (hw q hq).2
                obtain ⟨i, hi, rfl⟩ := n_below (show Z q < 2 ^ 31 by omega) hz0 hz
                have i1c : (nI (i)).toNatClampNeg = i := nI_clamp (by omega)
                have i1z : (nI (i) < 0) = False := n_ge0 (by omega)
                have i1l : (40 ≤ i) = False := n_lef (by omega)
                have hi' : i < Z q := by rw [n_lt (by omega) (by omega)] at hz; exact hz
                rw [c_130 lc_0, k145, bI_s, if_pos hx]
                simp only [z_f, if_neg h0, if_neg h4, lc_0, lr_0_11, lr_0_12, lr_0_13, lc_226, ll_226, lc_225, ll_225, lc_220_ok, ll_220, sh_r hq, sh_c hq, sh_l hq, i0c, i0z, i0l, i1c, i1z, i1l, c1, c3, c4 i hi', if_neg h1, if_pos hs, if_neg hz0, if_pos hz, bq_s, mS_c, mS_l, mS_r, mS_i, mS_j, mS_pi, mS_pj, lt_st, bq_s, bV_s, bI_s, bJ_s, bA_s, nz_0, nc_0, nz_1, nc_1, nz_2, nc_2, nz_3, nc_3, nz_4, nc_4, nz_5, nc_5, nz_6, nc_6, nz_7, nc_7, nz_8, nc_8, nz_9, nc_9, nz_10, nc_10, nz_11, nc_11, nz_12, nc_12, if_true, if_false, eq_self, true_and, and_true, false_or, or_false, true_or, or_true, false_and, and_false, not_true, not_false_eq_true, ne_eq, ite_self, ite_not, ↓reduceIte, n_101, n_107, n_11]
              · rw [if_neg (fun h => hz h.2)]
                rw [c_130 lc_0, k145, bI_s, if_pos hx]
                simp only [z_f, if_neg h0, if_neg h4, lc_0, lr_0_12, lr_0_13, lc_226, ll_226, lc_225, ll_225, i0c, i0z, i0l, c1, c3, if_neg h1, if_pos hs, if_neg hz0, if_neg hz, bq_s, mS_c, mS_l, mS_r, mS_i, mS_j, mS_pi, mS_pj, lt_st, bq_s, bV_s, bI_s, bJ_s, bA_s, nz_0, nc_0, nz_1, nc_1, nz_2, nc_2, nz_3, nc_3, nz_4, nc_4, nz_5, nc_5, nz_6, nc_6, nz_7, nc_7, nz_8, nc_8, nz_9, nc_9, nz_10, nc_10, nz_11, nc_11, nz_12, nc_12, if_true, if_false, eq_self, true_and, and_true, false_or, or_false, true_or, or_true, false_and, and_false, not_true, not_false_eq_true, ne_eq, ite_self, ite_not, ↓reduceIte, n_101, n_107, n_11]
          · rw [if_neg hs]
            rw [c_130 lc_0, k145, bI_s, if_pos hx]
            simp only [z_f, if_neg h0, if_neg h4, lc_0, lr_0_12, lc_225, ll_225, i0c, i0z, i0l, c1, if_neg h1, if_neg hs, bq_s, mS_c, mS_l, mS_r, mS_i, mS_j, mS_pi, mS_pj, lt_st, bq_s, bV_s, bI_s, bJ_s, bA_s, nz_0, nc_0, nz_1, nc_1, nz_2, nc_2, nz_3, nc_3, nz_4, nc_4, nz_5, nc_5, nz_6, nc_6, nz_7, nc_7, nz_8, nc_8, nz_9, nc_9, nz_10, nc_10, nz_11, nc_11, nz_12, nc_12, if_true, if_false, eq_self, true_and, and_true, false_or, or_false, true_or, or_true, false_and, and_false, not_true, not_false_eq_true, ne_eq, ite_self, ite_not, ↓reduceIte, n_101, n_107, n_11]
  · rw [c_130 lc_0, k145, bI_s, if_neg hx, if_pos nI_0, if_neg (fun h => hx h.1)]
/-! the model -/
theorem wfS_neg (hw : wfS S Z) (hq : q < 4) : (S q < 0) = (S q = (Int32.ofInt (-1))) := by
  rcases (hw q hq).1 with h | ⟨t, ht, h⟩
  · rw [h]; exact propext ⟨fun _ => rfl, fun _ => by decide⟩
  · rw [h, n_ge0 (by omega)]
    exact (eq_false fun hh => by
      have h1 : ¬ nI t < 0 := nI_pos (by omega)
      rw [hh] at h1
      exact h1 (by decide)).symm
theorem w_m1 {b : Nat} (hb : b < 2 ^ 31) : am_cal (d + 1) 151 [.long x.toInt64, .long (Int64.ofInt (-1)), .long (lN b)] (mS I J) = some (some (.int (if ¬ x < (Int32.ofInt (-1)) ∧ ¬ nI b < x then nI 1 else nI 0)), mS I J) := by
  have e1 : Int64.ofInt (-1) = (Int32.ofInt (-1)).toInt64 := by decide
  rw [c_151, e1]
  simp (disch := first | assumption | omega) only [if_true, if_false, eq_self, true_and, and_true, false_or, or_false, true_or, or_true, false_and, and_false, not_true, not_false_eq_true, ne_eq, ite_self, ite_not, ↓reduceIte, l_lt, l_gt, w_lt, w_nlt]
  by_cases h1 : x < (Int32.ofInt (-1)) <;> by_cases h2 : nI b < x <;> simp only [h1, h2, if_true, if_false, eq_self, true_and, and_true, false_or, or_false, true_or, or_true, false_and, and_false, not_true, not_false_eq_true, ne_eq, ite_self, ite_not, ↓reduceIte]
theorem e246b (hq : q < 4) : ∀ j k (I1 : mI), k + j = 40 → (∀ a, a ≠ 244 → I1 a = I a) → (∀ i, i < k → I1 244 (40 * q + i) = nI 0) → (∀ i, ¬ (40 * q ≤ i ∧ i < 40 * q + 40) → I1 244 i = I 244 i) → ∃ I', (∀ a, a ≠ 244 → I' a = I a) ∧ (∀ i, i < 40 → I' 244 (40 * q + i) = nI 0) ∧ (∀ i, ¬ (40 * q ≤ i ∧ i < 40 * q + 40) → I' 244 i = I 244 i) ∧ am_X (am_cal d) 246 38 [.ref 229, .int (nI q), .null, .null, .int (nI k)] [] (mS I1 J) = some (some (.int (nI 1)), mS I' J) := by
  intro j
  have i0c : (nI (q)).toNatClampNeg = q := nI_clamp (by omega)
  have i0z : (nI (q) < 0) = False := n_ge0 (by omega)
  have i0l : (4 ≤ q) = False := n_lef (by omega)
  induction j with
  | zero =>
    intro k I1 hk h1 h2 h3
    have hk' : k = 40 := by omega
    subst hk'
    refine ⟨I1, h1, h2, h3, ?_⟩
    rw [e_246_38]
    simp only [n_lt (show 40 < 2 ^ 31 by omega) (show 40 < 2 ^ 31 by omega), Nat.lt_irrefl, lc_229, lr_229_0, lc_230, ll_230, bq_s, mS_c, mS_l, mS_r, mS_i, mS_j, mS_pi, mS_pj, lt_st, bq_s, bV_s, bI_s, bJ_s, bA_s, nz_0, nc_0, nz_1, nc_1, nz_2, nc_2, nz_3, nc_3, nz_4, nc_4, nz_5, nc_5, nz_6, nc_6, nz_7, nc_7, nz_8, nc_8, nz_9, nc_9, nz_10, nc_10, nz_11, nc_11, nz_12, nc_12, if_true, if_false, eq_self, true_and, and_true, false_or, or_false, true_or, or_true, false_and, and_false, not_true, not_false_eq_true, ne_eq, ite_self, ite_not, ↓reduceIte]
  | succ j ih =>
    intro k I1 hk h1 h2 h3
    have i1c : (nI (40 * q + k)).toNatClampNeg = 40 * q + k := nI_clamp (by omega)
    have i1z : (nI (40 * q + k) < 0) = False := n_ge0 (by omega)
    have i1l : (160 ≤ 40 * q + k) = False := n_lef (by omega)
    have p0 : nI 40 * nI q = nI (40 * q) := pk_mul _ _
    obtain ⟨I', a1, a2, a3, a4⟩ := ih (k + 1) (wI I1 244 (40 * q + k) (nI 0)) (by omega) (fun a ha => by rw [wI_F1 a ha, h1 a ha]) (fun i hi => by
      by_cases e : i = k
      · subst e; rw [wI_eq]
      · rw [wI_nk (by omega)]; exact h2 i (by omega)) (fun i hi => by rw [wI_nk (by omega)]; exact h3 i hi)
    refine ⟨I', a1, a2, a3, ?_⟩
    rw [e_246_38]
    simp only [lc_229, lr_229_27, lc_244, ll_244, p0, i0c, i0z, i0l, i1c, i1z, i1l, n_lt (show k < 2 ^ 31 by omega) (show 40 < 2 ^ 31 by omega), eq_true (show k < 40 by omega), nI_add, lc_229, lr_229_0, lc_230, ll_230, bq_s, mS_c, mS_l, mS_r, mS_i, mS_j, mS_pi, mS_pj, lt_st, bq_s, bV_s, bI_s, bJ_s, bA_s, nz_0, nc_0, nz_1, nc_1, nz_2, nc_2, nz_3, nc_3, nz_4, nc_4, nz_5, nc_5, nz_6, nc_6, nz_7, nc_7, nz_8, nc_8, nz_9, nc_9, nz_10, nc_10, nz_11, nc_11, nz_12, nc_12, if_true, if_false, eq_self, true_and, and_true, false_or, or_false, true_or, or_true, false_and, and_false, not_true, not_false_eq_true, ne_eq, ite_self, ite_not, ↓reduceIte]
    exact a4
theorem e246 (hw : wfS S Z) (hM : ShM I S Z T) (hq : q < 4) (ho : okSt (nI q) y z) : ∃ I', FSM I' I ∧ ShM I' (tr_S S (nI q) y z) (tr_Z Z (nI q) y z) (tr_T T (nI q) y z) ∧ am_X (am_cal d) 246 22 [.ref 229, .int (nI q), .int y, .int z, .null] [] (mS I J) = some (some (.int (nI 1)), mS I' J) := by
  have i0c : (nI (q)).toNatClampNeg = q := nI_clamp (by omega)
  have i0z : (nI (q) < 0) = False := n_ge0 (by omega)
  have i0l : (4 ≤ q) = False := n_lef (by omega)
  unfold tr_S tr_Z tr_T
  rw [if_pos ho, i0c]
  by_cases h1 : y = (Int32.ofInt (-1))
  · rw [if_neg (fun h => h.2 h1), if_neg (fun h => h.2 h1)]
    have hy : y < 0 := by rw [h1]; decide
    obtain ⟨I', a1, a2, a3, a4⟩ := e246b (d := d) (J := J) (I := wI (wI I 242 q y) 243 q (nI 0)) hq 40 0 _ rfl (fun _ _ => rfl) (fun i hi => absurd hi (by omega)) (fun _ _ => rfl)
    refine ⟨I', fun a b1 b2 b3 => by rw [a1 a b3, wI_F1 a b2, wI_F1 a b1], fun p hp => ?_, ?_⟩
    · rw [a1 242 (by decide), a1 243 (by decide), wI_F1 242 (by decide)]
      by_cases e : p = q
      · subst e
        rw [wI_eq, upA_eq]
        exact ⟨rfl, fun h => absurd h1 h⟩
      · rw [wI_nk e, wI_nk e, upA_ne e, wI_F1 243 (by decide)]
        refine ⟨(hM p hp).1, fun h => ⟨((hM p hp).2 h).1, fun k hk => ?_⟩⟩
        have hk40 : k < 40 := by have := (hw p hp).2; omega
        rw [a3 (40 * p + k) (by omega), wI_F1 244 (by decide), wI_F1 244 (by decide)]
        exact ((hM p hp).2 h).2 k hk
    · rw [e_246_22]
      simp only [lc_229, lr_229_25, lr_229_26, lc_242, ll_242, lc_243, ll_243, i0c, i0z, i0l, eq_true hy, lc_229, lr_229_0, lc_230, ll_230, bq_s, mS_c, mS_l, mS_r, mS_i, mS_j, mS_pi, mS_pj, lt_st, bq_s, bV_s, bI_s, bJ_s, bA_s, nz_0, nc_0, nz_1, nc_1, nz_2, nc_2, nz_3, nc_3, nz_4, nc_4, nz_5, nc_5, nz_6, nc_6, nz_7, nc_7, nz_8, nc_8, nz_9, nc_9, nz_10, nc_10, nz_11, nc_11, nz_12, nc_12, if_true, if_false, eq_self, true_and, and_true, false_or, or_false, true_or, or_true, false_and, and_false, not_true, not_false_eq_true, ne_eq, ite_self, ite_not, ↓reduceIte]
      exact a4
  · have hy : ¬ y < 0 := by
      obtain ⟨t, ht, rfl⟩ := n_le4 ho.2.1.1 h1 ho.2.1.2
      exact nI_pos (by omega)
    rw [if_pos ⟨ho, h1⟩, if_pos ⟨ho, h1⟩]
    have hz : ¬ z < 0 ∧ ¬ nI 40 < z := by
      rcases ho.2.2 with h | h
      · exact absurd h h1
      · exact ⟨h.2, h.1⟩
    obtain ⟨n, hn, rfl⟩ := nI_of hz.1
    have hn40 : n ≤ 40 := by have := hz.2; rw [n_lt (by decide) hn] at this; omega
    obtain ⟨I', a1, a2, a3, a4⟩ := e246b (d := d) (J := J) (I := wI (wI I 242 q y) 243 q (nI n)) hq 40 0 _ rfl (fun _ _ => rfl) (fun i hi => absurd hi (by omega)) (fun _ _ => rfl)
    refine ⟨I', fun a b1 b2 b3 => by rw [a1 a b3, wI_F1 a b2, wI_F1 a b1], fun p hp => ?_, ?_⟩
    · rw [a1 242 (by decide), a1 243 (by decide), wI_F1 242 (by decide)]
      by_cases e : p = q
      · subst e
        rw [wI_eq, wI_eq, upA_eq, upA_eq, upA_eq, nI_clamp hn]
        exact ⟨rfl, fun _ => ⟨rfl, fun k hk => a2 k (by omega)⟩⟩
      · rw [wI_nk e, wI_nk e, upA_ne e, upA_ne e, upA_ne e, wI_F1 243 (by decide)]
        refine ⟨(hM p hp).1, fun h => ⟨((hM p hp).2 h).1, fun k hk => ?_⟩⟩
        have hk40 : k < 40 := by have := (hw p hp).2; omega
        rw [a3 (40 * p + k) (by omega), wI_F1 244 (by decide), wI_F1 244 (by decide)]
        exact ((hM p hp).2 h).2 k hk
    · rw [e_246_22]
      simp only [lc_229, lr_229_25, lr_229_26, lc_242, ll_242, lc_243, ll_243, i0c, i0z, i0l, eq_false hy, lc_229, lr_229_0, lc_230, ll_230, bq_s, mS_c, mS_l, mS_r, mS_i, mS_j, mS_pi, mS_pj, lt_st, bq_s, bV_s, bI_s, bJ_s, bA_s, nz_0, nc_0, nz_1, nc_1, nz_2, nc_2, nz_3, nc_3, nz_4, nc_4, nz_5, nc_5, nz_6, nc_6, nz_7, nc_7, nz_8, nc_8, nz_9, nc_9, nz_10, nc_10, nz_11, nc_11, nz_12, nc_12, if_true, if_false, eq_self, true_and, and_true, false_or, or_false, true_or, or_true, false_and, and_false, not_true, not_false_eq_true, ne_eq, ite_self, ite_not, ↓reduceIte]
      exact a4
end I3s
