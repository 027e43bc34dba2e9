/-! ===== person, kin, common, says ===== -/
section B8
variable {I : mI} {J : mJ} {w p q e c d l b : Nat} {s : Rw} {x y key day : Int32}
theorem W1 : isW 1 := Or.inl rfl
theorem W64 : isW 64 := Or.inr (Or.inl rfl)
theorem W127 : isW 127 := Or.inr (Or.inr rfl)
theorem nBad {k : Nat} {a : Int32} (h : ¬ a < nI 0 ∧ ¬ nI k < a) (hk : k < 2 ^ 31) : ∃ j, j ≤ k ∧ a = nI j := by
  obtain ⟨j, hj, rfl⟩ := nI_of (by rw [n_i0]; exact h.1)
  have := h.2
  rw [n_lt hk hj] at this
  exact ⟨j, by omega, rfl⟩
theorem k98 (h : Rep I 1 s) (hW : WF s) : am_cal (d + 3) 98 [.ref 0, .int x, .int y] (mS I J) = some (some (.int (v_pers s x y)), mS I J) := by
  have h12 := hW.nP.1
  rw [c_98 lc_0]
  simp only [lc_0, lr_0_0, k65 W1 h, bq_s, mS_c, mS_l, mS_r, mS_i, mS_j, mS_pi, mS_pj, lt_st, bq_s, bV_s, bI_s, bJ_s, bA_s, nz_0, nc_0, nz_1, nc_1, nz_2, nc_2, nz_3, nc_3, nz_4, nc_4, nz_5, nc_5, nz_6, nc_6, nz_7, nc_7, nz_8, nc_8, nz_9, nc_9, nz_10, nc_10, nz_11, nc_11, nz_12, nc_12, if_true, if_false, eq_self, true_and, and_true, false_or, or_false, true_or, or_true, false_and, and_false, not_true, not_false_eq_true, ne_eq, ite_self, ite_not, ↓reduceIte, n_101, n_107, n_11]
  unfold v_pers
  by_cases hx : isP s x
  · obtain ⟨p, hp, rfl⟩ := isP_n hW hx
    have i0c : (nI (p)).toNatClampNeg = p := nI_clamp (by omega)
    have i0z : (nI (p) < 0) = False := n_ge0 (by omega)
    have i0l : (12 ≤ p) = False := n_lef (by omega)
    rw [if_pos hx, if_pos hx, if_neg (by decide)]
    have hr := k89 (d := d + 1) (J := J) W1 h hW hp
    simp only [w_C W1, w_R0 W1, w_C1 W1, w_L1 W1, w_rp W1 (show p < 12 by omega), w_cp W1 (show p < 12 by omega), i0c, i0z, i0l, h.pF hp (show 0 < 8 by decide), h.pF hp (show 2 < 8 by decide), h.pF hp (show 3 < 8 by decide), h.pF hp (show 4 < 8 by decide), h.pF hp (show 5 < 8 by decide), h.pF hp (show 6 < 8 by decide), h.pF hp (show 7 < 8 by decide), h.vd hp, hr, e_98_42, r_ite, bq_s, mS_c, mS_l, mS_r, mS_i, mS_j, mS_pi, mS_pj, lt_st, bq_s, bV_s, bI_s, bJ_s, bA_s, nz_0, nc_0, nz_1, nc_1, nz_2, nc_2, nz_3, nc_3, nz_4, nc_4, nz_5, nc_5, nz_6, nc_6, nz_7, nc_7, nz_8, nc_8, nz_9, nc_9, nz_10, nc_10, nz_11, nc_11, nz_12, nc_12, if_true, if_false, eq_self, true_and, and_true, false_or, or_false, true_or, or_true, false_and, and_false, not_true, not_false_eq_true, ne_eq, ite_self, ite_not, ↓reduceIte, n_101, n_107, n_11]
    have e7 : (if b2 (isVd s p) = 0 then nI 0 else nI 1) = b2 (isVd s p) := by
      by_cases hv : isVd s p
      · rw [if_b2t hv, b2_t hv]
      · rw [if_b2f hv, b2_f hv]
    rw [e7]
  · rw [if_neg hx, if_neg hx, if_pos nI_0]
theorem m173 (hW : WF (I 230)) : ∃ I', F2 236 237 I' I ∧ am_cal (d + 6) 173 [.ref 229, .int x, .int y] (mS I J) = some (some (.int (v_pers (I 230) x y)), mS I' J) := by
  have h12 := hW.nP.1
  rw [c_173 lc_229, m153 hW, bI_s]
  unfold v_pers
  by_cases hx : isP (I 230) x
  · rw [if_pos hx, if_pos hx, if_neg (by decide), m151 (by decide) (by decide), bI_s]
    obtain ⟨p, hp, rfl⟩ := isP_n hW hx
    have hc : (nI p).toNatClampNeg = p := nI_clamp (by omega)
    rw [hc]
    by_cases hy : ¬ y < nI 0 ∧ ¬ nI 8 < y
    · rw [if_pos hy, if_neg (by decide)]
      obtain ⟨j, hj, rfl⟩ := nBad hy (by decide)
      have sm : ∀ f, f < 10 → am_cal (d + 5) 152 [.ref 229, .int (nI p), .int (nI f)] (mS I J) = some (some (.int (pF (I 230) p f)), mS I J) := fun f hf => m152 (by omega) hf
      obtain ⟨I', hF, hr⟩ := m172 (d := d) (J := J) (I := I) hW hp
      have hroot := m171 (d := d + 3) (J := J) hW hp
      have ne : ∀ a b : Nat, a < 9 → b < 9 → a ≠ b → (nI a = nI b) = False := fun a b ha hb hab => eq_false (fun h => hab ((nI_eq (by omega) (by omega)).mp h))
      rcases (show j = 0 ∨ j = 1 ∨ j = 2 ∨ j = 3 ∨ j = 4 ∨ j = 5 ∨ j = 6 ∨ j = 7 ∨ j = 8 by omega) with rfl | rfl | rfl | rfl | rfl | rfl | rfl | rfl | rfl
      · exact ⟨I, F2.rf, by simp only [sm 0 (by decide), bq_s, mS_c, mS_l, mS_r, mS_i, mS_j, mS_pi, mS_pj, lt_st, bq_s, bV_s, bI_s, bJ_s, bA_s, nz_0, nc_0, nz_1, nc_1, nz_2, nc_2, nz_3, nc_3, nz_4, nc_4, nz_5, nc_5, nz_6, nc_6, nz_7, nc_7, nz_8, nc_8, nz_9, nc_9, nz_10, nc_10, nz_11, nc_11, nz_12, nc_12, if_true, if_false, eq_self, true_and, and_true, false_or, or_false, true_or, or_true, false_and, and_false, not_true, not_false_eq_true, ne_eq, ite_self, ite_not, ↓reduceIte, n_101, n_107, n_11]⟩
      · exact ⟨I, F2.rf, by simp only [ne 1 0 (by decide) (by decide) (by decide), sm 2 (by decide), bq_s, mS_c, mS_l, mS_r, mS_i, mS_j, mS_pi, mS_pj, lt_st, bq_s, bV_s, bI_s, bJ_s, bA_s, nz_0, nc_0, nz_1, nc_1, nz_2, nc_2, nz_3, nc_3, nz_4, nc_4, nz_5, nc_5, nz_6, nc_6, nz_7, nc_7, nz_8, nc_8, nz_9, nc_9, nz_10, nc_10, nz_11, nc_11, nz_12, nc_12, if_true, if_false, eq_self, true_and, and_true, false_or, or_false, true_or, or_true, false_and, and_false, not_true, not_false_eq_true, ne_eq, ite_self, ite_not, ↓reduceIte, n_101, n_107, n_11]⟩
      · exact ⟨I, F2.rf, by simp only [ne 2 0 (by decide) (by decide) (by decide), ne 2 1 (by decide) (by decide) (by decide), sm 3 (by decide), bq_s, mS_c, mS_l, mS_r, mS_i, mS_j, mS_pi, mS_pj, lt_st, bq_s, bV_s, bI_s, bJ_s, bA_s, nz_0, nc_0, nz_1, nc_1, nz_2, nc_2, nz_3, nc_3, nz_4, nc_4, nz_5, nc_5, nz_6, nc_6, nz_7, nc_7, nz_8, nc_8, nz_9, nc_9, nz_10, nc_10, nz_11, nc_11, nz_12, nc_12, if_true, if_false, eq_self, true_and, and_true, false_or, or_false, true_or, or_true, false_and, and_false, not_true, not_false_eq_true, ne_eq, ite_self, ite_not, ↓reduceIte, n_101, n_107, n_11]⟩
      · exact ⟨I, F2.rf, by simp only [ne 3 0 (by decide) (by decide) (by decide), ne 3 1 (by decide) (by decide) (by decide), ne 3 2 (by decide) (by decide) (by decide), sm 4 (by decide), bq_s, mS_c, mS_l, mS_r, mS_i, mS_j, mS_pi, mS_pj, lt_st, bq_s, bV_s, bI_s, bJ_s, bA_s, nz_0, nc_0, nz_1, nc_1, nz_2, nc_2, nz_3, nc_3, nz_4, nc_4, nz_5, nc_5, nz_6, nc_6, nz_7, nc_7, nz_8, nc_8, nz_9, nc_9, nz_10, nc_10, nz_11, nc_11, nz_12, nc_12, if_true, if_false, eq_self, true_and, and_true, false_or, or_false, true_or, or_true, false_and, and_false, not_true, not_false_eq_true, ne_eq, ite_self, ite_not, ↓reduceIte, n_101, n_107, n_11]⟩
      · exact ⟨I, F2.rf, by simp only [ne 4 0 (by decide) (by decide) (by decide), ne 4 1 (by decide) (by decide) (by decide), ne 4 2 (by decide) (by decide) (by decide), ne 4 3 (by decide) (by decide) (by decide), sm 5 (by decide), bq_s, mS_c, mS_l, mS_r, mS_i, mS_j, mS_pi, mS_pj, lt_st, bq_s, bV_s, bI_s, bJ_s, bA_s, nz_0, nc_0, nz_1, nc_1, nz_2, nc_2, nz_3, nc_3, nz_4, nc_4, nz_5, nc_5, nz_6, nc_6, nz_7, nc_7, nz_8, nc_8, nz_9, nc_9, nz_10, nc_10, nz_11, nc_11, nz_12, nc_12, if_true, if_false, eq_self, true_and, and_true, false_or, or_false, true_or, or_true, false_and, and_false, not_true, not_false_eq_true, ne_eq, ite_self, ite_not, ↓reduceIte, n_101, n_107, n_11]⟩
      · exact ⟨I, F2.rf, by simp only [ne 5 0 (by decide) (by decide) (by decide), ne 5 1 (by decide) (by decide) (by decide), ne 5 2 (by decide) (by decide) (by decide), ne 5 3 (by decide) (by decide) (by decide), ne 5 4 (by decide) (by decide) (by decide), sm 6 (by decide), bq_s, mS_c, mS_l, mS_r, mS_i, mS_j, mS_pi, mS_pj, lt_st, bq_s, bV_s, bI_s, bJ_s, bA_s, nz_0, nc_0, nz_1, nc_1, nz_2, nc_2, nz_3, nc_3, nz_4, nc_4, nz_5, nc_5, nz_6, nc_6, nz_7, nc_7, nz_8, nc_8, nz_9, nc_9, nz_10, nc_10, nz_11, nc_11, nz_12, nc_12, if_true, if_false, eq_self, true_and, and_true, false_or, or_false, true_or, or_true, false_and, and_false, not_true, not_false_eq_true, ne_eq, ite_self, ite_not, ↓reduceIte, n_101, n_107, n_11]⟩
      · exact ⟨I, F2.rf, by simp only [ne 6 0 (by decide) (by decide) (by decide), ne 6 1 (by decide) (by decide) (by decide), ne 6 2 (by decide) (by decide) (by decide), ne 6 3 (by decide) (by decide) (by decide), ne 6 4 (by decide) (by decide) (by decide), ne 6 5 (by decide) (by decide) (by decide), sm 7 (by decide), bq_s, mS_c, mS_l, mS_r, mS_i, mS_j, mS_pi, mS_pj, lt_st, bq_s, bV_s, bI_s, bJ_s, bA_s, nz_0, nc_0, nz_1, nc_1, nz_2, nc_2, nz_3, nc_3, nz_4, nc_4, nz_5, nc_5, nz_6, nc_6, nz_7, nc_7, nz_8, nc_8, nz_9, nc_9, nz_10, nc_10, nz_11, nc_11, nz_12, nc_12, if_true, if_false, eq_self, true_and, and_true, false_or, or_false, true_or, or_true, false_and, and_false, not_true, not_false_eq_true, ne_eq, ite_self, ite_not, ↓reduceIte, n_101, n_107, n_11]⟩
      · refine ⟨I', hF, ?_⟩
        simp only [ne 7 0 (by decide) (by decide) (by decide), ne 7 1 (by decide) (by decide) (by decide), ne 7 2 (by decide) (by decide) (by decide), ne 7 3 (by decide) (by decide) (by decide), ne 7 4 (by decide) (by decide) (by decide), ne 7 5 (by decide) (by decide) (by decide), ne 7 6 (by decide) (by decide) (by decide), hr, e_173_56, bq_s, mS_c, mS_l, mS_r, mS_i, mS_j, mS_pi, mS_pj, lt_st, bq_s, bV_s, bI_s, bJ_s, bA_s, nz_0, nc_0, nz_1, nc_1, nz_2, nc_2, nz_3, nc_3, nz_4, nc_4, nz_5, nc_5, nz_6, nc_6, nz_7, nc_7, nz_8, nc_8, nz_9, nc_9, nz_10, nc_10, nz_11, nc_11, nz_12, nc_12, if_true, if_false, eq_self, true_and, and_true, false_or, or_false, true_or, or_true, false_and, and_false, not_true, not_false_eq_true, ne_eq, ite_self, ite_not, ↓reduceIte, n_101, n_107, n_11]
        by_cases hv : isVd (I 230) p
        · rw [if_b2t hv, b2_t hv]
        · rw [if_b2f hv, b2_f hv]
      · exact ⟨I, F2.rf, by simp only [ne 8 0 (by decide) (by decide) (by decide), ne 8 1 (by decide) (by decide) (by decide), ne 8 2 (by decide) (by decide) (by decide), ne 8 3 (by decide) (by decide) (by decide), ne 8 4 (by decide) (by decide) (by decide), ne 8 5 (by decide) (by decide) (by decide), ne 8 6 (by decide) (by decide) (by decide), ne 8 7 (by decide) (by decide) (by decide), hroot, bq_s, mS_c, mS_l, mS_r, mS_i, mS_j, mS_pi, mS_pj, lt_st, bq_s, bV_s, bI_s, bJ_s, bA_s, nz_0, nc_0, nz_1, nc_1, nz_2, nc_2, nz_3, nc_3, nz_4, nc_4, nz_5, nc_5, nz_6, nc_6, nz_7, nc_7, nz_8, nc_8, nz_9, nc_9, nz_10, nc_10, nz_11, nc_11, nz_12, nc_12, if_true, if_false, eq_self, true_and, and_true, false_or, or_false, true_or, or_true, false_and, and_false, not_true, not_false_eq_true, ne_eq, ite_self, ite_not, ↓reduceIte, n_101, n_107, n_11]⟩
    · refine ⟨I, F2.rf, ?_⟩
      have hn : ∀ j, j < 9 → ¬ y = nI j := fun j hj h => hy (by
        rw [h]
        exact ⟨by rw [n_lt (by omega) (by decide)]; omega, by rw [n_lt (by decide) (by omega)]; omega⟩)
      rw [if_neg hy, if_pos nI_0, e_173_10, if_neg (hn 0 (by decide)), if_neg (hn 1 (by decide)), if_neg (hn 2 (by decide)), if_neg (hn 3 (by decide)), if_neg (hn 4 (by decide)), if_neg (hn 5 (by decide)), if_neg (hn 6 (by decide)), if_neg (hn 7 (by decide)), if_neg (hn 8 (by decide))]
  · exact ⟨I, F2.rf, by rw [if_neg hx, if_neg hx, if_pos nI_0, e_173_10]⟩
theorem k99 (h : Rep I 1 s) (hW : WF s) : am_cal (d + 2) 99 [.ref 0, .int x] (mS I J) = some (some (.int (v_kin s x)), mS I J) := by
  have h12 := hW.nP.1
  rw [c_99 lc_0]
  simp only [lc_0, lr_0_0, k65 W1 h, bq_s, mS_c, mS_l, mS_r, mS_i, mS_j, mS_pi, mS_pj, lt_st, bq_s, bV_s, bI_s, bJ_s, bA_s, nz_0, nc_0, nz_1, nc_1, nz_2, nc_2, nz_3, nc_3, nz_4, nc_4, nz_5, nc_5, nz_6, nc_6, nz_7, nc_7, nz_8, nc_8, nz_9, nc_9, nz_10, nc_10, nz_11, nc_11, nz_12, nc_12, if_true, if_false, eq_self, true_and, and_true, false_or, or_false, true_or, or_true, false_and, and_false, not_true, not_false_eq_true, ne_eq, ite_self, ite_not, ↓reduceIte, n_101, n_107, n_11]
  unfold v_kin
  by_cases hx : isP s x
  · obtain ⟨p, hp, rfl⟩ := isP_n hW hx
    rw [if_pos hx, if_pos hx, if_neg (by decide), nI_clamp (by omega)]
    have lp : ∀ (n q : Nat) (t : Int32), q + n = nP s → am_X (am_cal (d + 1)) 99 11 [.ref 0, .int (nI p), .int t, .int (nI q)] [] (mS I J) = some (some (.int (kinU s p n q t)), mS I J) := by
      intro n
      induction n with
      | zero =>
        intro q t hq
        rw [e_99_11]
        simp only [lc_0, lr_0_0, w_C W1, h.ppl, hW.nP.2, n_lt (show q < 2 ^ 31 by omega) (show nP s < 2 ^ 31 by omega), n_ltf (show nP s ≤ q by omega), bq_s, mS_c, mS_l, mS_r, mS_i, mS_j, mS_pi, mS_pj, lt_st, bq_s, bV_s, bI_s, bJ_s, bA_s, nz_0, nc_0, nz_1, nc_1, nz_2, nc_2, nz_3, nc_3, nz_4, nc_4, nz_5, nc_5, nz_6, nc_6, nz_7, nc_7, nz_8, nc_8, nz_9, nc_9, nz_10, nc_10, nz_11, nc_11, nz_12, nc_12, if_true, if_false, eq_self, true_and, and_true, false_or, or_false, true_or, or_true, false_and, and_false, not_true, not_false_eq_true, ne_eq, ite_self, ite_not, ↓reduceIte, n_101, n_107, n_11]
        rfl
      | succ n ih =>
        intro q t hq
        rw [e_99_11]
        simp only [lc_0, lr_0_0, w_C W1, h.ppl, hW.nP.2, n_lt (show q < 2 ^ 31 by omega) (show nP s < 2 ^ 31 by omega), n_ltt (show q < nP s by omega), k90 W1 h hW (show q < nP s by omega), bit_at0 (show p < 32 by omega), nI_add, ih (q + 1) _ (show q + 1 + n = nP s by omega), bq_s, mS_c, mS_l, mS_r, mS_i, mS_j, mS_pi, mS_pj, lt_st, bq_s, bV_s, bI_s, bJ_s, bA_s, nz_0, nc_0, nz_1, nc_1, nz_2, nc_2, nz_3, nc_3, nz_4, nc_4, nz_5, nc_5, nz_6, nc_6, nz_7, nc_7, nz_8, nc_8, nz_9, nc_9, nz_10, nc_10, nz_11, nc_11, nz_12, nc_12, if_true, if_false, eq_self, true_and, and_true, false_or, or_false, true_or, or_true, false_and, and_false, not_true, not_false_eq_true, ne_eq, ite_self, ite_not, ↓reduceIte, n_101, n_107, n_11]
        rw [kinU_s]
        cases hb : bit (above s q) p <;> simp only [bq_s, mS_c, mS_l, mS_r, mS_i, mS_j, mS_pi, mS_pj, lt_st, bq_s, bV_s, bI_s, bJ_s, bA_s, nz_0, nc_0, nz_1, nc_1, nz_2, nc_2, nz_3, nc_3, nz_4, nc_4, nz_5, nc_5, nz_6, nc_6, nz_7, nc_7, nz_8, nc_8, nz_9, nc_9, nz_10, nc_10, nz_11, nc_11, nz_12, nc_12, if_true, if_false, eq_self, true_and, and_true, false_or, or_false, true_or, or_true, false_and, and_false, not_true, not_false_eq_true, ne_eq, ite_self, ite_not, ↓reduceIte, n_101, n_107, n_11, Bool.false_eq_true, Bool.true_eq_false]
    rw [lp (nP s - p) p (nI 0) (by omega), show nP s = p + (nP s - p) by omega, kinU_skip hW p 0 (nI 0) (by omega) (by omega), Nat.zero_add, show p + (nP s - p) - p = nP s - p by omega]
  · rw [if_neg hx, if_neg hx, if_pos nI_0]
theorem m175 (hW : WF (I 230)) : am_cal (d + 3) 175 [.ref 229, .int x] (mS I J) = some (some (.int (v_kin (I 230) x)), mS I J) := by
  have h12 := hW.nP.1
  rw [c_175 lc_229, m153 hW, bI_s]
  unfold v_kin
  by_cases hx : isP (I 230) x
  · obtain ⟨p, hp, rfl⟩ := isP_n hW hx
    rw [if_pos hx, if_pos hx, if_neg (by decide), nI_clamp (by omega)]
    have lp : ∀ (n q : Nat) (t : Int32), q + n = nP (I 230) → am_X (am_cal (d + 2)) 175 10 [.ref 229, .int (nI p), .int t, .int (nI q)] [] (mS I J) = some (some (.int (kinU (I 230) p n q t)), mS I J) := by
      intro n
      induction n with
      | zero =>
        intro q t hq
        rw [e_175_10]
        simp only [hW.nP.2, n_lt (show q < 2 ^ 31 by omega) (show nP (I 230) < 2 ^ 31 by omega), n_ltf (show nP (I 230) ≤ q by omega), n_lef (show 1 < 546 by decide), lc_229, lr_229_0, lc_230, ll_230, bq_s, mS_c, mS_l, mS_r, mS_i, mS_j, mS_pi, mS_pj, lt_st, bq_s, bV_s, bI_s, bJ_s, bA_s, nz_0, nc_0, nz_1, nc_1, nz_2, nc_2, nz_3, nc_3, nz_4, nc_4, nz_5, nc_5, nz_6, nc_6, nz_7, nc_7, nz_8, nc_8, nz_9, nc_9, nz_10, nc_10, nz_11, nc_11, nz_12, nc_12, if_true, if_false, eq_self, true_and, and_true, false_or, or_false, true_or, or_true, false_and, and_false, not_true, not_false_eq_true, ne_eq, ite_self, ite_not, ↓reduceIte]
        rfl
      | succ n ih =>
        intro q t hq
        rw [e_175_10]
        simp only [hW.nP.2, n_lt (show q < 2 ^ 31 by omega) (show nP (I 230) < 2 ^ 31 by omega), n_ltt (show q < nP (I 230) by omega), n_lef (show 1 < 546 by decide), m174 hW (show q < nP (I 230) by omega), bit_at1 (show p < 32 by omega), nI_add, or_0, ih (q + 1) _ (show q + 1 + n = nP (I 230) by omega), lc_229, lr_229_0, lc_230, ll_230, bq_s, mS_c, mS_l, mS_r, mS_i, mS_j, mS_pi, mS_pj, lt_st, bq_s, bV_s, bI_s, bJ_s, bA_s, nz_0, nc_0, nz_1, nc_1, nz_2, nc_2, nz_3, nc_3, nz_4, nc_4, nz_5, nc_5, nz_6, nc_6, nz_7, nc_7, nz_8, nc_8, nz_9, nc_9, nz_10, nc_10, nz_11, nc_11, nz_12, nc_12, if_true, if_false, eq_self, true_and, and_true, false_or, or_false, true_or, or_true, false_and, and_false, not_true, not_false_eq_true, ne_eq, ite_self, ite_not, ↓reduceIte]
        rw [kinU_s]
        cases hb : bit (above (I 230) q) p <;> simp only [bq_s, mS_c, mS_l, mS_r, mS_i, mS_j, mS_pi, mS_pj, lt_st, bq_s, bV_s, bI_s, bJ_s, bA_s, nz_0, nc_0, nz_1, nc_1, nz_2, nc_2, nz_3, nc_3, nz_4, nc_4, nz_5, nc_5, nz_6, nc_6, nz_7, nc_7, nz_8, nc_8, nz_9, nc_9, nz_10, nc_10, nz_11, nc_11, nz_12, nc_12, if_true, if_false, eq_self, true_and, and_true, false_or, or_false, true_or, or_true, false_and, and_false, not_true, not_false_eq_true, ne_eq, ite_self, ite_not, ↓reduceIte, n_101, n_107, n_11, Bool.false_eq_true, Bool.true_eq_false]
    rw [lp (nP (I 230)) 0 (nI 0) (by omega)]
  · rw [if_neg hx, if_neg hx, if_pos nI_0]
theorem k100 (h : Rep I 1 s) (hW : WF s) : am_cal (d + 2) 100 [.ref 0, .int x, .int y] (mS I J) = some (some (.int (v_comm s x y)), mS I J) := by
  have h12 := hW.nP.1
  rw [c_100 lc_0]
  simp only [lc_0, lr_0_0, k65 W1 h, w_C W1, bq_s, mS_c, mS_l, mS_r, mS_i, mS_j, mS_pi, mS_pj, lt_st, bq_s, bV_s, bI_s, bJ_s, bA_s, nz_0, nc_0, nz_1, nc_1, nz_2, nc_2, nz_3, nc_3, nz_4, nc_4, nz_5, nc_5, nz_6, nc_6, nz_7, nc_7, nz_8, nc_8, nz_9, nc_9, nz_10, nc_10, nz_11, nc_11, nz_12, nc_12, if_true, if_false, eq_self, true_and, and_true, false_or, or_false, true_or, or_true, false_and, and_false, not_true, not_false_eq_true, ne_eq, ite_self, ite_not, ↓reduceIte, n_101, n_107, n_11]
  unfold v_comm
  by_cases hx : isP s x
  · by_cases hy : isP s y
    · rw [if_pos hx, if_pos hy, if_pos hx, if_pos hy, if_neg (by decide), if_neg (by decide)]
      obtain ⟨p, hp, rfl⟩ := isP_n hW hx
      obtain ⟨q, hq, rfl⟩ := isP_n hW hy
      rw [nI_clamp (by omega), nI_clamp (by omega)]
      generalize hT : above s p &&& above s q = T
      have lp : ∀ n, n ≤ nP s → am_X (am_cal (d + 1)) 100 28 [.null, .null, .null, .int T, .int (nI n - nI 1)] [] (mS I J) = some (some (.int (topb T n)), mS I J) := by
        intro n
        induction n with
        | zero =>
          intro _
          rw [e_100_28]
          simp only [neg1, bq_s, mS_c, mS_l, mS_r, mS_i, mS_j, mS_pi, mS_pj, lt_st, bq_s, bV_s, bI_s, bJ_s, bA_s, nz_0, nc_0, nz_1, nc_1, nz_2, nc_2, nz_3, nc_3, nz_4, nc_4, nz_5, nc_5, nz_6, nc_6, nz_7, nc_7, nz_8, nc_8, nz_9, nc_9, nz_10, nc_10, nz_11, nc_11, nz_12, nc_12, if_true, if_false, eq_self, true_and, and_true, false_or, or_false, true_or, or_true, false_and, and_false, not_true, not_false_eq_true, ne_eq, ite_self, ite_not, ↓reduceIte, n_101, n_107, n_11]
          rfl
        | succ n ih =>
          intro hn
          rw [e_100_28, n_pred]
          simp only [n_ge0 (show n < 2 ^ 31 by omega), bit_at0 (show n < 32 by omega), ih (by omega), bq_s, mS_c, mS_l, mS_r, mS_i, mS_j, mS_pi, mS_pj, lt_st, bq_s, bV_s, bI_s, bJ_s, bA_s, nz_0, nc_0, nz_1, nc_1, nz_2, nc_2, nz_3, nc_3, nz_4, nc_4, nz_5, nc_5, nz_6, nc_6, nz_7, nc_7, nz_8, nc_8, nz_9, nc_9, nz_10, nc_10, nz_11, nc_11, nz_12, nc_12, if_true, if_false, eq_self, true_and, and_true, false_or, or_false, true_or, or_true, false_and, and_false, not_true, not_false_eq_true, ne_eq, ite_self, ite_not, ↓reduceIte, n_101, n_107, n_11]
          rw [topb_s]
          cases hb : bit T n <;> simp only [bq_s, mS_c, mS_l, mS_r, mS_i, mS_j, mS_pi, mS_pj, lt_st, bq_s, bV_s, bI_s, bJ_s, bA_s, nz_0, nc_0, nz_1, nc_1, nz_2, nc_2, nz_3, nc_3, nz_4, nc_4, nz_5, nc_5, nz_6, nc_6, nz_7, nc_7, nz_8, nc_8, nz_9, nc_9, nz_10, nc_10, nz_11, nc_11, nz_12, nc_12, if_true, if_false, eq_self, true_and, and_true, false_or, or_false, true_or, or_true, false_and, and_false, not_true, not_false_eq_true, ne_eq, ite_self, ite_not, ↓reduceIte, n_101, n_107, n_11, Bool.false_eq_true, Bool.true_eq_false]
      simp only [k90 W1 h hW hp, k90 W1 h hW hq, w_C W1, h.ppl, hT, lc_0, lr_0_0, bq_s, mS_c, mS_l, mS_r, mS_i, mS_j, mS_pi, mS_pj, lt_st, bq_s, bV_s, bI_s, bJ_s, bA_s, nz_0, nc_0, nz_1, nc_1, nz_2, nc_2, nz_3, nc_3, nz_4, nc_4, nz_5, nc_5, nz_6, nc_6, nz_7, nc_7, nz_8, nc_8, nz_9, nc_9, nz_10, nc_10, nz_11, nc_11, nz_12, nc_12, if_true, if_false, eq_self, true_and, and_true, false_or, or_false, true_or, or_true, false_and, and_false, not_true, not_false_eq_true, ne_eq, ite_self, ite_not, ↓reduceIte, n_101, n_107, n_11]
      rw [hW.nP.2]
      exact lp _ (Nat.le_refl _)
    · rw [if_pos hx, if_neg hy, if_pos hx, if_neg hy, if_neg (by decide), if_pos nI_0]
  · rw [if_neg hx, if_neg hx, if_pos nI_0]
theorem m176 (hW : WF (I 230)) : am_cal (d + 3) 176 [.ref 229, .int x, .int y] (mS I J) = some (some (.int (v_comm (I 230) x y)), mS I J) := by
  have h12 := hW.nP.1
  rw [c_176 lc_229, m153 hW, bI_s, m153 hW, bI_s]
  unfold v_comm
  by_cases hx : isP (I 230) x
  · by_cases hy : isP (I 230) y
    · rw [if_pos hx, if_pos hy, if_pos hx, if_pos hy, if_neg (by decide), if_neg (by decide)]
      obtain ⟨p, hp, rfl⟩ := isP_n hW hx
      obtain ⟨q, hq, rfl⟩ := isP_n hW hy
      rw [nI_clamp (by omega), nI_clamp (by omega), m174 hW hp, bI_s, m174 hW hq, bI_s]
      generalize hT : above (I 230) p &&& above (I 230) q = T
      have lp : ∀ n k, k + n = nP (I 230) → am_X (am_cal (d + 2)) 176 22 [.ref 229, .null, .null, .int T, .int (topb T k), .int (nI k)] [] (mS I J) = some (some (.int (topb T (nP (I 230)))), mS I J) := by
        intro n
        induction n with
        | zero =>
          intro k hk
          rw [e_176_22]
          simp only [hW.nP.2, n_lt (show k < 2 ^ 31 by omega) (show nP (I 230) < 2 ^ 31 by omega), n_ltf (show nP (I 230) ≤ k by omega), n_lef (show 1 < 546 by decide), lc_229, lr_229_0, lc_230, ll_230, bq_s, mS_c, mS_l, mS_r, mS_i, mS_j, mS_pi, mS_pj, lt_st, bq_s, bV_s, bI_s, bJ_s, bA_s, nz_0, nc_0, nz_1, nc_1, nz_2, nc_2, nz_3, nc_3, nz_4, nc_4, nz_5, nc_5, nz_6, nc_6, nz_7, nc_7, nz_8, nc_8, nz_9, nc_9, nz_10, nc_10, nz_11, nc_11, nz_12, nc_12, if_true, if_false, eq_self, true_and, and_true, false_or, or_false, true_or, or_true, false_and, and_false, not_true, not_false_eq_true, ne_eq, ite_self, ite_not, ↓reduceIte]
          rw [show k = nP (I 230) by omega]
        | succ n ih =>
          intro k hk
          rw [e_176_22]
          have ih := ih (k + 1) (by omega)
          simp only [hW.nP.2, n_lt (show k < 2 ^ 31 by omega) (show nP (I 230) < 2 ^ 31 by omega), n_ltt (show k < nP (I 230) by omega), n_lef (show 1 < 546 by decide), bit_at1 (show k < 32 by omega), nI_add, lc_229, lr_229_0, lc_230, ll_230, bq_s, mS_c, mS_l, mS_r, mS_i, mS_j, mS_pi, mS_pj, lt_st, bq_s, bV_s, bI_s, bJ_s, bA_s, nz_0, nc_0, nz_1, nc_1, nz_2, nc_2, nz_3, nc_3, nz_4, nc_4, nz_5, nc_5, nz_6, nc_6, nz_7, nc_7, nz_8, nc_8, nz_9, nc_9, nz_10, nc_10, nz_11, nc_11, nz_12, nc_12, if_true, if_false, eq_self, true_and, and_true, false_or, or_false, true_or, or_true, false_and, and_false, not_true, not_false_eq_true, ne_eq, ite_self, ite_not, ↓reduceIte]
          rw [← ih]
          show _ = am_X (am_cal (d + 2)) 176 22 [.ref 229, .null, .null, .int T, .int (if bit T k then nI k else topb T k), .int (nI (k + 1))] [] (mS I J)
          cases hb : bit T k <;> simp only [bq_s, mS_c, mS_l, mS_r, mS_i, mS_j, mS_pi, mS_pj, lt_st, bq_s, bV_s, bI_s, bJ_s, bA_s, nz_0, nc_0, nz_1, nc_1, nz_2, nc_2, nz_3, nc_3, nz_4, nc_4, nz_5, nc_5, nz_6, nc_6, nz_7, nc_7, nz_8, nc_8, nz_9, nc_9, nz_10, nc_10, nz_11, nc_11, nz_12, nc_12, if_true, if_false, eq_self, true_and, and_true, false_or, or_false, true_or, or_true, false_and, and_false, not_true, not_false_eq_true, ne_eq, ite_self, ite_not, ↓reduceIte, n_101, n_107, n_11, Bool.false_eq_true, Bool.true_eq_false]
      exact lp (nP (I 230)) 0 (by omega)
    · rw [if_pos hx, if_neg hy, if_pos hx, if_neg hy, if_neg (by decide), if_pos nI_0]
  · rw [if_neg hx, if_neg hx, if_pos nI_0]
theorem m199 (hW : WF (I 230)) (hp : p < nP (I 230)) : ∃ I', F2 236 237 I' I ∧ am_cal (d + 4) 199 [.ref 229, .int key, .int (nI p)] (mS I J) = some (some (.int (lawV (I 230) key (fct (I 230 0) (I 230 1) (nI 0) (pF (I 230) p 0) (nI 0) (nI 0)))), mS I' J) := by
  have h12 := hW.nP.1
  have z6 : ∀ k, k < 6 → (6 ≤ k) = False := fun k hk => n_lef hk
  have zz : ∀ k, k < 6 → (546 ≤ k) = False := fun k hk => n_lef (by omega)
  obtain ⟨I', hF, hr⟩ := m197f (d := d) (J := J) (key := key) hW F1_6 (fct_6 (I := I) (q := 236) (a := I 230 0) (b := I 230 1) (c := nI 0) (d := pF (I 230) p 0) (e := nI 0) (g := nI 0))
  refine ⟨I', hF, ?_⟩
  have e0 : ∀ (I1 : mI) (k : Nat) (v : Int32), wI I1 236 k v 230 = I1 230 := fun I1 k v => wI_F1 230 (by decide)
  rw [c_199 lc_229]
  simp only [lr_229_14, lc_236, ll_236, z6 0 (by decide), z6 1 (by decide), z6 2 (by decide), z6 3 (by decide), z6 4 (by decide), z6 5 (by decide), zz 0 (by decide), zz 1 (by decide), m152 (show p < 12 by omega) (show 0 < 10 by decide), e0, hr, lc_229, lr_229_0, lc_230, ll_230, bq_s, mS_c, mS_l, mS_r, mS_i, mS_j, mS_pi, mS_pj, lt_st, bq_s, bV_s, bI_s, bJ_s, bA_s, nz_0, nc_0, nz_1, nc_1, nz_2, nc_2, nz_3, nc_3, nz_4, nc_4, nz_5, nc_5, nz_6, nc_6, nz_7, nc_7, nz_8, nc_8, nz_9, nc_9, nz_10, nc_10, nz_11, nc_11, nz_12, nc_12, if_true, if_false, eq_self, true_and, and_true, false_or, or_false, true_or, or_true, false_and, and_false, not_true, not_false_eq_true, ne_eq, ite_self, ite_not, ↓reduceIte]
theorem k103 (h : Rep I 1 s) (hW : WF s) : ∃ I', F1 13 I' I ∧ am_cal (d + 5) 103 [.ref 0, .int x, .int y] (mS I J) = some (some (.int (v_says s x y)), mS I' J) := by
  rw [c_103 lc_0]
  unfold v_says
  by_cases h1 : x < 0
  · exact ⟨I, fun _ _ => rfl, by rw [if_pos h1, if_neg (fun hh => hh.1 h1)]⟩
  · by_cases h2 : nI 6 < x
    · exact ⟨I, fun _ _ => rfl, by rw [if_neg h1, if_pos h2, if_neg (fun hh => hh.2 h2)]⟩
    · have h3 : ¬ x < 0 ∧ ¬ nI 6 < x := ⟨h1, h2⟩
      rw [if_neg h1, if_neg h2, if_pos h3]
      simp only [lc_0, lr_0_0, k65 W1 h, w_C W1, bq_s, mS_c, mS_l, mS_r, mS_i, mS_j, mS_pi, mS_pj, lt_st, bq_s, bV_s, bI_s, bJ_s, bA_s, nz_0, nc_0, nz_1, nc_1, nz_2, nc_2, nz_3, nc_3, nz_4, nc_4, nz_5, nc_5, nz_6, nc_6, nz_7, nc_7, nz_8, nc_8, nz_9, nc_9, nz_10, nc_10, nz_11, nc_11, nz_12, nc_12, if_true, if_false, eq_self, true_and, and_true, false_or, or_false, true_or, or_true, false_and, and_false, not_true, not_false_eq_true, ne_eq, ite_self, ite_not, ↓reduceIte, n_101, n_107, n_11]
      by_cases hy : isP s y
      · obtain ⟨p, hp, rfl⟩ := isP_n hW hy
        obtain ⟨I', hF, hr⟩ := k87 (d := d) (J := J) (key := x) W1 h hW hp
        have h12 := hW.nP.1
        refine ⟨I', hF, ?_⟩
        rw [if_pos hy, if_pos hy, if_neg (by decide), hr, bI_s, nI_clamp (by omega)]
      · exact ⟨I, fun _ _ => rfl, by rw [if_neg hy, if_neg hy, if_pos nI_0]⟩
theorem m200 (hW : WF (I 230)) : ∃ I', F2 236 237 I' I ∧ am_cal (d + 5) 200 [.ref 229, .int x, .int y] (mS I J) = some (some (.int (v_says (I 230) x y)), mS I' J) := by
  rw [c_200 lc_229, m151 (by decide) (by decide), bI_s, ← n_i0]
  unfold v_says
  by_cases h1 : ¬ x < 0 ∧ ¬ nI 6 < x
  · rw [if_pos h1, if_pos h1, if_neg (by decide), m153 hW, bI_s]
    by_cases hy : isP (I 230) y
    · obtain ⟨p, hp, rfl⟩ := isP_n hW hy
      obtain ⟨I', hF, hr⟩ := m199 (d := d) (J := J) (key := x) hW hp
      have h12 := hW.nP.1
      refine ⟨I', hF, ?_⟩
      rw [if_pos hy, if_pos hy, if_neg (by decide), hr, bI_s, nI_clamp (by omega)]
    · exact ⟨I, F2.rf, by rw [if_neg hy, if_neg hy, if_pos nI_0]⟩
  · exact ⟨I, F2.rf, by rw [if_neg h1, if_neg h1, if_pos rfl]⟩
end B8
