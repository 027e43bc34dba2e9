/-! ===== weddings: the model ===== -/
section E2
variable {I : mI} {J : mJ} {w p q e c d l b g r k : Nat} {s : Rw} {x y z key day : Int32} {h : Nat → Nat}
theorem m225 {t : Int32} (hW : WF (I 230)) (he : e < nE (I 230)) (hp : p < nP (I 230)) (h1 : eF (I 230) e 1 = nI p) : ∃ I', F2 236 237 I' I ∧ am_cal (d + 7) 225 [.ref 229, .int (nI e), .int t, .int day] (mS I J) = some (some (.int (sdS (I 230) e p day t)), mS I' J) := by
  have h12 := hW.nP.1
  have h18 := hW.nE.1
  have a0 : nI 130 + nI 3 * nI e = nI (130 + 3 * e) := by rw [pk_mul, nI_add]
  have a1 : nI (130 + 3 * e) + nI 1 = nI (130 + 3 * e + 1) := nI_add _ _
  have i0c : (nI (130 + 3 * e)).toNatClampNeg = 130 + 3 * e := nI_clamp (by omega)
  have i0z : (nI (130 + 3 * e) < 0) = False := n_ge0 (by omega)
  have i0l : (546 ≤ 130 + 3 * e) = False := n_lef (by omega)
  have i1c : (nI (130 + 3 * e + 1)).toNatClampNeg = 130 + 3 * e + 1 := nI_clamp (by omega)
  have i1z : (nI (130 + 3 * e + 1) < 0) = False := n_ge0 (by omega)
  have i1l : (546 ≤ 130 + 3 * e + 1) = False := n_lef (by omega)
  have h1' : I 230 (130 + 3 * e + 1) = nI p := h1
  have of : ∀ f, f < 10 → am_cal (d + 6) 152 [.ref 229, .int (nI p), .int (nI f)] (mS I J) = some (some (.int (pF (I 230) p f)), mS I J) := fun f hf => m152 (by omega) hf
  obtain ⟨I1, hF1, hr1⟩ := m207 (d := d) (J := J) (I := I) (day := day) hW he hp h1
  have f0 := hF1 230 (by decide) (by decide)
  rw [c_225 lc_229]
  by_cases s4 : eF (I 230) e 0 = nI 4
  · have s4' : I 230 (130 + 3 * e) = nI 4 := s4
    refine ⟨I, F2.rf, ?_⟩
    simp only [a0, a1, i0c, i0z, i0l, i1c, i1z, i1l, h1', s4', of 2 (by decide), m1e, nn_0_1, nn_0_2, nn_0_3, nn_0_4, nn_0_5, nn_0_6, nn_0_7, nn_0_8, nn_1_0, nn_1_2, nn_1_3, nn_1_4, nn_1_5, nn_1_6, nn_1_7, nn_1_8, nn_2_0, nn_2_1, nn_2_3, nn_2_4, nn_2_5, nn_2_6, nn_2_7, nn_2_8, nn_3_0, nn_3_1, nn_3_2, nn_3_4, nn_3_5, nn_3_6, nn_3_7, nn_3_8, nn_4_0, nn_4_1, nn_4_2, nn_4_3, nn_4_5, nn_4_6, nn_4_7, nn_4_8, nn_5_0, nn_5_1, nn_5_2, nn_5_3, nn_5_4, nn_5_6, nn_5_7, nn_5_8, nn_6_0, nn_6_1, nn_6_2, nn_6_3, nn_6_4, nn_6_5, nn_6_7, nn_6_8, nn_7_0, nn_7_1, nn_7_2, nn_7_3, nn_7_4, nn_7_5, nn_7_6, nn_7_8, nn_8_0, nn_8_1, nn_8_2, nn_8_3, nn_8_4, nn_8_5, nn_8_6, nn_8_7, nq_0, nq_1, nq_2, nq_3, nq_4, nq_5, nq_6, nq_7, nq_8, lc_229, lr_229_0, lc_230, ll_230, bq_s, mS_c, mS_l, mS_r, mS_i, mS_j, mS_pi, mS_pj, lt_st, bq_s, bV_s, bI_s, bJ_s, bA_s, nz_0, nc_0, nz_1, nc_1, nz_2, nc_2, nz_3, nc_3, nz_4, nc_4, nz_5, nc_5, nz_6, nc_6, nz_7, nc_7, nz_8, nc_8, nz_9, nc_9, nz_10, nc_10, nz_11, nc_11, nz_12, nc_12, if_true, if_false, eq_self, true_and, and_true, false_or, or_false, true_or, or_true, false_and, and_false, not_true, not_false_eq_true, ne_eq, ite_self, ite_not, ↓reduceIte]
    unfold sdS
    rw [if_neg (by rw [s4]; decide), if_pos s4]
  · have s4' : ¬ I 230 (130 + 3 * e) = nI 4 := s4
    by_cases s3 : eF (I 230) e 0 = nI 3
    · have s3' : I 230 (130 + 3 * e) = nI 3 := s3
      refine ⟨I, F2.rf, ?_⟩
      simp only [a0, a1, i0c, i0z, i0l, i1c, i1z, i1l, h1', s3', of 2 (by decide), of 3 (by decide), m1e, nn_0_1, nn_0_2, nn_0_3, nn_0_4, nn_0_5, nn_0_6, nn_0_7, nn_0_8, nn_1_0, nn_1_2, nn_1_3, nn_1_4, nn_1_5, nn_1_6, nn_1_7, nn_1_8, nn_2_0, nn_2_1, nn_2_3, nn_2_4, nn_2_5, nn_2_6, nn_2_7, nn_2_8, nn_3_0, nn_3_1, nn_3_2, nn_3_4, nn_3_5, nn_3_6, nn_3_7, nn_3_8, nn_4_0, nn_4_1, nn_4_2, nn_4_3, nn_4_5, nn_4_6, nn_4_7, nn_4_8, nn_5_0, nn_5_1, nn_5_2, nn_5_3, nn_5_4, nn_5_6, nn_5_7, nn_5_8, nn_6_0, nn_6_1, nn_6_2, nn_6_3, nn_6_4, nn_6_5, nn_6_7, nn_6_8, nn_7_0, nn_7_1, nn_7_2, nn_7_3, nn_7_4, nn_7_5, nn_7_6, nn_7_8, nn_8_0, nn_8_1, nn_8_2, nn_8_3, nn_8_4, nn_8_5, nn_8_6, nn_8_7, nq_0, nq_1, nq_2, nq_3, nq_4, nq_5, nq_6, nq_7, nq_8, lc_229, lr_229_0, lc_230, ll_230, bq_s, mS_c, mS_l, mS_r, mS_i, mS_j, mS_pi, mS_pj, lt_st, bq_s, bV_s, bI_s, bJ_s, bA_s, nz_0, nc_0, nz_1, nc_1, nz_2, nc_2, nz_3, nc_3, nz_4, nc_4, nz_5, nc_5, nz_6, nc_6, nz_7, nc_7, nz_8, nc_8, nz_9, nc_9, nz_10, nc_10, nz_11, nc_11, nz_12, nc_12, if_true, if_false, eq_self, true_and, and_true, false_or, or_false, true_or, or_true, false_and, and_false, not_true, not_false_eq_true, ne_eq, ite_self, ite_not, ↓reduceIte]
      unfold sdS
      rw [if_pos s3]
      by_cases hz : t &&& ((nI 1 <<< (pF (I 230) p 2 &&& 31)) ||| (nI 1 <<< (pF (I 230) p 3 &&& 31))) = 0
      · rw [if_pos hz, if_pos hz]
      · rw [if_neg hz, if_neg hz]
    · have s3' : ¬ I 230 (130 + 3 * e) = nI 3 := s3
      by_cases hm : mv (I 230) e p day
      · have hcp := (my_yt hW he hp (my_mv h1 hm)).1
        obtain ⟨q, hq, e2⟩ := WFcq hW hp hcp
        by_cases hz : (t >>> (nI q &&& 31)) &&& nI 1 = 0
        · refine ⟨I, F2.rf, ?_⟩
          simp only [a0, a1, i0c, i0z, i0l, i1c, i1z, i1l, h1', s3', s4', of 2 (by decide), e2, n_ge0 (show q < 2 ^ 31 by omega), hz, lc_229, lr_229_0, lc_230, ll_230, bq_s, mS_c, mS_l, mS_r, mS_i, mS_j, mS_pi, mS_pj, lt_st, bq_s, bV_s, bI_s, bJ_s, bA_s, nz_0, nc_0, nz_1, nc_1, nz_2, nc_2, nz_3, nc_3, nz_4, nc_4, nz_5, nc_5, nz_6, nc_6, nz_7, nc_7, nz_8, nc_8, nz_9, nc_9, nz_10, nc_10, nz_11, nc_11, nz_12, nc_12, if_true, if_false, eq_self, true_and, and_true, false_or, or_false, true_or, or_true, false_and, and_false, not_true, not_false_eq_true, ne_eq, ite_self, ite_not, ↓reduceIte]
          unfold sdS
          rw [if_neg s3, if_neg s4, if_pos hm, e2, if_pos hz]
        · have es : eF (I 230) e 0 = nI 1 ∨ eF (I 230) e 0 = nI 2 := by
            rcases hm.1 with h | h
            · exact Or.inl h.1
            · exact Or.inr h.1
          obtain ⟨I2, hF2, hr2⟩ := m198 (d := d + 2) (J := J) (I := I1) (key := nI 4) (by rw [f0]; exact hW) (by rw [f0]; exact he) (by rw [f0]; exact es) (by rw [f0]; exact hp) (by rw [f0]; exact h1)
          rw [f0, m1e] at hr2
          refine ⟨I2, hF1.tr hF2, ?_⟩
          have hsd : sdS (I 230) e p day t = wcS (onE (I 230) (nI 4) e p (nI 0) (nI 0)) (nI q) (nI p) t := by
            unfold sdS
            rw [if_neg s3, if_neg s4, if_pos hm, e2, if_neg hz]
          rw [hsd]
          generalize onE (I 230) (nI 4) e p (nI 0) (nI 0) = v at hr2 ⊢
          simp only [a0, a1, i0c, i0z, i0l, i1c, i1z, i1l, h1', s3', s4', of 2 (by decide), e2, n_ge0 (show q < 2 ^ 31 by omega), hz, hr1, b2_t hm, hr2, e_225_93, e_225_109, m1e, nn_0_1, nn_0_2, nn_0_3, nn_0_4, nn_0_5, nn_0_6, nn_0_7, nn_0_8, nn_1_0, nn_1_2, nn_1_3, nn_1_4, nn_1_5, nn_1_6, nn_1_7, nn_1_8, nn_2_0, nn_2_1, nn_2_3, nn_2_4, nn_2_5, nn_2_6, nn_2_7, nn_2_8, nn_3_0, nn_3_1, nn_3_2, nn_3_4, nn_3_5, nn_3_6, nn_3_7, nn_3_8, nn_4_0, nn_4_1, nn_4_2, nn_4_3, nn_4_5, nn_4_6, nn_4_7, nn_4_8, nn_5_0, nn_5_1, nn_5_2, nn_5_3, nn_5_4, nn_5_6, nn_5_7, nn_5_8, nn_6_0, nn_6_1, nn_6_2, nn_6_3, nn_6_4, nn_6_5, nn_6_7, nn_6_8, nn_7_0, nn_7_1, nn_7_2, nn_7_3, nn_7_4, nn_7_5, nn_7_6, nn_7_8, nn_8_0, nn_8_1, nn_8_2, nn_8_3, nn_8_4, nn_8_5, nn_8_6, nn_8_7, nq_0, nq_1, nq_2, nq_3, nq_4, nq_5, nq_6, nq_7, nq_8, lc_229, lr_229_0, lc_230, ll_230, bq_s, mS_c, mS_l, mS_r, mS_i, mS_j, mS_pi, mS_pj, lt_st, bq_s, bV_s, bI_s, bJ_s, bA_s, nz_0, nc_0, nz_1, nc_1, nz_2, nc_2, nz_3, nc_3, nz_4, nc_4, nz_5, nc_5, nz_6, nc_6, nz_7, nc_7, nz_8, nc_8, nz_9, nc_9, nz_10, nc_10, nz_11, nc_11, nz_12, nc_12, if_true, if_false, eq_self, true_and, and_true, false_or, or_false, true_or, or_true, false_and, and_false, not_true, not_false_eq_true, ne_eq, ite_self, ite_not, ↓reduceIte]
          unfold wcS
          by_cases hv1 : v = nI 1
          · simp only [hv1, e_225_93, e_225_109, m1e, nn_0_1, nn_0_2, nn_0_3, nn_0_4, nn_0_5, nn_0_6, nn_0_7, nn_0_8, nn_1_0, nn_1_2, nn_1_3, nn_1_4, nn_1_5, nn_1_6, nn_1_7, nn_1_8, nn_2_0, nn_2_1, nn_2_3, nn_2_4, nn_2_5, nn_2_6, nn_2_7, nn_2_8, nn_3_0, nn_3_1, nn_3_2, nn_3_4, nn_3_5, nn_3_6, nn_3_7, nn_3_8, nn_4_0, nn_4_1, nn_4_2, nn_4_3, nn_4_5, nn_4_6, nn_4_7, nn_4_8, nn_5_0, nn_5_1, nn_5_2, nn_5_3, nn_5_4, nn_5_6, nn_5_7, nn_5_8, nn_6_0, nn_6_1, nn_6_2, nn_6_3, nn_6_4, nn_6_5, nn_6_7, nn_6_8, nn_7_0, nn_7_1, nn_7_2, nn_7_3, nn_7_4, nn_7_5, nn_7_6, nn_7_8, nn_8_0, nn_8_1, nn_8_2, nn_8_3, nn_8_4, nn_8_5, nn_8_6, nn_8_7, nq_0, nq_1, nq_2, nq_3, nq_4, nq_5, nq_6, nq_7, nq_8, bq_s, mS_c, mS_l, mS_r, mS_i, mS_j, mS_pi, mS_pj, lt_st, bq_s, bV_s, bI_s, bJ_s, bA_s, nz_0, nc_0, nz_1, nc_1, nz_2, nc_2, nz_3, nc_3, nz_4, nc_4, nz_5, nc_5, nz_6, nc_6, nz_7, nc_7, nz_8, nc_8, nz_9, nc_9, nz_10, nc_10, nz_11, nc_11, nz_12, nc_12, if_true, if_false, eq_self, true_and, and_true, false_or, or_false, true_or, or_true, false_and, and_false, not_true, not_false_eq_true, ne_eq, ite_self, ite_not, ↓reduceIte, n_101, n_107, n_11]
          · by_cases hv2 : v = nI 2
            · simp only [hv2, e_225_93, e_225_109, m1e, nn_0_1, nn_0_2, nn_0_3, nn_0_4, nn_0_5, nn_0_6, nn_0_7, nn_0_8, nn_1_0, nn_1_2, nn_1_3, nn_1_4, nn_1_5, nn_1_6, nn_1_7, nn_1_8, nn_2_0, nn_2_1, nn_2_3, nn_2_4, nn_2_5, nn_2_6, nn_2_7, nn_2_8, nn_3_0, nn_3_1, nn_3_2, nn_3_4, nn_3_5, nn_3_6, nn_3_7, nn_3_8, nn_4_0, nn_4_1, nn_4_2, nn_4_3, nn_4_5, nn_4_6, nn_4_7, nn_4_8, nn_5_0, nn_5_1, nn_5_2, nn_5_3, nn_5_4, nn_5_6, nn_5_7, nn_5_8, nn_6_0, nn_6_1, nn_6_2, nn_6_3, nn_6_4, nn_6_5, nn_6_7, nn_6_8, nn_7_0, nn_7_1, nn_7_2, nn_7_3, nn_7_4, nn_7_5, nn_7_6, nn_7_8, nn_8_0, nn_8_1, nn_8_2, nn_8_3, nn_8_4, nn_8_5, nn_8_6, nn_8_7, nq_0, nq_1, nq_2, nq_3, nq_4, nq_5, nq_6, nq_7, nq_8, bq_s, mS_c, mS_l, mS_r, mS_i, mS_j, mS_pi, mS_pj, lt_st, bq_s, bV_s, bI_s, bJ_s, bA_s, nz_0, nc_0, nz_1, nc_1, nz_2, nc_2, nz_3, nc_3, nz_4, nc_4, nz_5, nc_5, nz_6, nc_6, nz_7, nc_7, nz_8, nc_8, nz_9, nc_9, nz_10, nc_10, nz_11, nc_11, nz_12, nc_12, if_true, if_false, eq_self, true_and, and_true, false_or, or_false, true_or, or_true, false_and, and_false, not_true, not_false_eq_true, ne_eq, ite_self, ite_not, ↓reduceIte, n_101, n_107, n_11]
            · by_cases hv3 : v = nI 3
              · simp only [hv3, e_225_93, e_225_109, m1e, nn_0_1, nn_0_2, nn_0_3, nn_0_4, nn_0_5, nn_0_6, nn_0_7, nn_0_8, nn_1_0, nn_1_2, nn_1_3, nn_1_4, nn_1_5, nn_1_6, nn_1_7, nn_1_8, nn_2_0, nn_2_1, nn_2_3, nn_2_4, nn_2_5, nn_2_6, nn_2_7, nn_2_8, nn_3_0, nn_3_1, nn_3_2, nn_3_4, nn_3_5, nn_3_6, nn_3_7, nn_3_8, nn_4_0, nn_4_1, nn_4_2, nn_4_3, nn_4_5, nn_4_6, nn_4_7, nn_4_8, nn_5_0, nn_5_1, nn_5_2, nn_5_3, nn_5_4, nn_5_6, nn_5_7, nn_5_8, nn_6_0, nn_6_1, nn_6_2, nn_6_3, nn_6_4, nn_6_5, nn_6_7, nn_6_8, nn_7_0, nn_7_1, nn_7_2, nn_7_3, nn_7_4, nn_7_5, nn_7_6, nn_7_8, nn_8_0, nn_8_1, nn_8_2, nn_8_3, nn_8_4, nn_8_5, nn_8_6, nn_8_7, nq_0, nq_1, nq_2, nq_3, nq_4, nq_5, nq_6, nq_7, nq_8, bq_s, mS_c, mS_l, mS_r, mS_i, mS_j, mS_pi, mS_pj, lt_st, bq_s, bV_s, bI_s, bJ_s, bA_s, nz_0, nc_0, nz_1, nc_1, nz_2, nc_2, nz_3, nc_3, nz_4, nc_4, nz_5, nc_5, nz_6, nc_6, nz_7, nc_7, nz_8, nc_8, nz_9, nc_9, nz_10, nc_10, nz_11, nc_11, nz_12, nc_12, if_true, if_false, eq_self, true_and, and_true, false_or, or_false, true_or, or_true, false_and, and_false, not_true, not_false_eq_true, ne_eq, ite_self, ite_not, ↓reduceIte, n_101, n_107, n_11]
              · simp only [hv1, hv2, hv3, bq_s, mS_c, mS_l, mS_r, mS_i, mS_j, mS_pi, mS_pj, lt_st, bq_s, bV_s, bI_s, bJ_s, bA_s, nz_0, nc_0, nz_1, nc_1, nz_2, nc_2, nz_3, nc_3, nz_4, nc_4, nz_5, nc_5, nz_6, nc_6, nz_7, nc_7, nz_8, nc_8, nz_9, nc_9, nz_10, nc_10, nz_11, nc_11, nz_12, nc_12, if_true, if_false, eq_self, true_and, and_true, false_or, or_false, true_or, or_true, false_and, and_false, not_true, not_false_eq_true, ne_eq, ite_self, ite_not, ↓reduceIte, n_101, n_107, n_11]
      · have hsd : sdS (I 230) e p day t = t := by
          unfold sdS
          rw [if_neg s3, if_neg s4, if_neg hm]
        rw [hsd]
        by_cases hq0 : pF (I 230) p 2 < 0
        · refine ⟨I, F2.rf, ?_⟩
          simp only [a0, a1, i0c, i0z, i0l, i1c, i1z, i1l, h1', s3', s4', of 2 (by decide), hq0, lc_229, lr_229_0, lc_230, ll_230, bq_s, mS_c, mS_l, mS_r, mS_i, mS_j, mS_pi, mS_pj, lt_st, bq_s, bV_s, bI_s, bJ_s, bA_s, nz_0, nc_0, nz_1, nc_1, nz_2, nc_2, nz_3, nc_3, nz_4, nc_4, nz_5, nc_5, nz_6, nc_6, nz_7, nc_7, nz_8, nc_8, nz_9, nc_9, nz_10, nc_10, nz_11, nc_11, nz_12, nc_12, if_true, if_false, eq_self, true_and, and_true, false_or, or_false, true_or, or_true, false_and, and_false, not_true, not_false_eq_true, ne_eq, ite_self, ite_not, ↓reduceIte]
        · by_cases hz : (t >>> (pF (I 230) p 2 &&& 31)) &&& nI 1 = 0
          · refine ⟨I, F2.rf, ?_⟩
            simp only [a0, a1, i0c, i0z, i0l, i1c, i1z, i1l, h1', s3', s4', of 2 (by decide), hq0, hz, lc_229, lr_229_0, lc_230, ll_230, bq_s, mS_c, mS_l, mS_r, mS_i, mS_j, mS_pi, mS_pj, lt_st, bq_s, bV_s, bI_s, bJ_s, bA_s, nz_0, nc_0, nz_1, nc_1, nz_2, nc_2, nz_3, nc_3, nz_4, nc_4, nz_5, nc_5, nz_6, nc_6, nz_7, nc_7, nz_8, nc_8, nz_9, nc_9, nz_10, nc_10, nz_11, nc_11, nz_12, nc_12, if_true, if_false, eq_self, true_and, and_true, false_or, or_false, true_or, or_true, false_and, and_false, not_true, not_false_eq_true, ne_eq, ite_self, ite_not, ↓reduceIte]
          · refine ⟨I1, hF1, ?_⟩
            simp only [a0, a1, i0c, i0z, i0l, i1c, i1z, i1l, h1', s3', s4', of 2 (by decide), hq0, hz, hr1, b2_f hm, nn_0_1, nn_0_2, nn_0_3, nn_0_4, nn_0_5, nn_0_6, nn_0_7, nn_0_8, nn_1_0, nn_1_2, nn_1_3, nn_1_4, nn_1_5, nn_1_6, nn_1_7, nn_1_8, nn_2_0, nn_2_1, nn_2_3, nn_2_4, nn_2_5, nn_2_6, nn_2_7, nn_2_8, nn_3_0, nn_3_1, nn_3_2, nn_3_4, nn_3_5, nn_3_6, nn_3_7, nn_3_8, nn_4_0, nn_4_1, nn_4_2, nn_4_3, nn_4_5, nn_4_6, nn_4_7, nn_4_8, nn_5_0, nn_5_1, nn_5_2, nn_5_3, nn_5_4, nn_5_6, nn_5_7, nn_5_8, nn_6_0, nn_6_1, nn_6_2, nn_6_3, nn_6_4, nn_6_5, nn_6_7, nn_6_8, nn_7_0, nn_7_1, nn_7_2, nn_7_3, nn_7_4, nn_7_5, nn_7_6, nn_7_8, nn_8_0, nn_8_1, nn_8_2, nn_8_3, nn_8_4, nn_8_5, nn_8_6, nn_8_7, nq_0, nq_1, nq_2, nq_3, nq_4, nq_5, nq_6, nq_7, nq_8, lc_229, lr_229_0, lc_230, ll_230, bq_s, mS_c, mS_l, mS_r, mS_i, mS_j, mS_pi, mS_pj, lt_st, bq_s, bV_s, bI_s, bJ_s, bA_s, nz_0, nc_0, nz_1, nc_1, nz_2, nc_2, nz_3, nc_3, nz_4, nc_4, nz_5, nc_5, nz_6, nc_6, nz_7, nc_7, nz_8, nc_8, nz_9, nc_9, nz_10, nc_10, nz_11, nc_11, nz_12, nc_12, if_true, if_false, eq_self, true_and, and_true, false_or, or_false, true_or, or_true, false_and, and_false, not_true, not_false_eq_true, ne_eq, ite_self, ite_not, ↓reduceIte]
theorem m226 (hW : WF (I 230)) (hk : k < nW (I 230)) : ∃ I', FM I' I ∧ I' 229 19 = side (I 230) k 0 ∧ I' 229 20 = side (I 230) k 1 ∧ am_cal (d + 8) 226 [.ref 229, .int (nI k)] (mS I J) = some (none, mS I' J) := by
  have h12 := hW.nP.1
  have h18 := hW.nE.1
  have h8 := hW.nW.1
  obtain ⟨_, _, ⟨dd, _, ed⟩, e0, he0, e3⟩ := WFwd hW hk
  have a0 : nI 264 + nI 4 * nI k = nI (264 + 4 * k) := by rw [pk_mul, nI_add]
  have a1 : nI (264 + 4 * k) + nI 1 = nI (264 + 4 * k + 1) := nI_add _ _
  have a2 : nI (264 + 4 * k) + nI 2 = nI (264 + 4 * k + 2) := nI_add _ _
  have a3 : nI (264 + 4 * k) + nI 3 = nI (264 + 4 * k + 3) := nI_add _ _
  have k0c : (nI (264 + 4 * k)).toNatClampNeg = 264 + 4 * k := nI_clamp (by omega)
  have k0z : (nI (264 + 4 * k) < 0) = False := n_ge0 (by omega)
  have k0l : (546 ≤ 264 + 4 * k) = False := n_lef (by omega)
  have k1c : (nI (264 + 4 * k + 1)).toNatClampNeg = 264 + 4 * k + 1 := nI_clamp (by omega)
  have k1z : (nI (264 + 4 * k + 1) < 0) = False := n_ge0 (by omega)
  have k1l : (546 ≤ 264 + 4 * k + 1) = False := n_lef (by omega)
  have k2c : (nI (264 + 4 * k + 2)).toNatClampNeg = 264 + 4 * k + 2 := nI_clamp (by omega)
  have k2z : (nI (264 + 4 * k + 2) < 0) = False := n_ge0 (by omega)
  have k2l : (546 ≤ 264 + 4 * k + 2) = False := n_lef (by omega)
  have k3c : (nI (264 + 4 * k + 3)).toNatClampNeg = 264 + 4 * k + 3 := nI_clamp (by omega)
  have k3z : (nI (264 + 4 * k + 3) < 0) = False := n_ge0 (by omega)
  have k3l : (546 ≤ 264 + 4 * k + 3) = False := n_lef (by omega)
  have w0 : I 230 (264 + 4 * k) = wF (I 230) k 0 := rfl
  have w1 : I 230 (264 + 4 * k + 1) = wF (I 230) k 1 := rfl
  have w2 : I 230 (264 + 4 * k + 2) = wF (I 230) k 2 := rfl
  have w3 : I 230 (264 + 4 * k + 3) = nI e0 := e3
  have lp : ∀ n e (I1 : mI), e + n = nE (I 230) → FM I1 I → ∃ I', FM I' I ∧ I' 229 19 = sdR (I 230) (wF (I 230) k 2) n e (I1 229 19) ∧ I' 229 20 = sdR (I 230) (wF (I 230) k 2) n e (I1 229 20) ∧ am_X (am_cal (d + 7)) 226 31 [.ref 229, .null, .int (nI (264 + 4 * k)), .int (nI e)] [] (mS I1 J) = some (none, mS I' J) := by
    intro n
    induction n with
    | zero =>
      intro e I1 he h1
      have f0 := h1.sr
      refine ⟨I1, h1, rfl, rfl, ?_⟩
      rw [e_226_31]
      simp only [f0, hW.nE.2, n_lt (show e < 2 ^ 31 by omega) (show nE (I 230) < 2 ^ 31 by omega), n_ltf (show nE (I 230) ≤ e by omega), n_lef (show 2 < 546 by decide), lc_229, lr_229_0, lc_230, ll_230, bq_s, mS_c, mS_l, mS_r, mS_i, mS_j, mS_pi, mS_pj, lt_st, bq_s, bV_s, bI_s, bJ_s, bA_s, nz_0, nc_0, nz_1, nc_1, nz_2, nc_2, nz_3, nc_3, nz_4, nc_4, nz_5, nc_5, nz_6, nc_6, nz_7, nc_7, nz_8, nc_8, nz_9, nc_9, nz_10, nc_10, nz_11, nc_11, nz_12, nc_12, if_true, if_false, eq_self, true_and, and_true, false_or, or_false, true_or, or_true, false_and, and_false, not_true, not_false_eq_true, ne_eq, ite_self, ite_not, ↓reduceIte]
    | succ n ih =>
      intro e I1 he h1
      have hen : e < nE (I 230) := by omega
      have f0 := h1.sr
      obtain ⟨p, hp, hep, hby, hs⟩ := WFev hW hen
      obtain ⟨I2, g2, r2⟩ := m225 (d := d) (J := J) (I := I1) (e := e) (p := p) (t := I1 229 19) (day := wF (I 230) k 2) (by rw [f0]; exact hW) (by rw [f0]; exact hen) (by rw [f0]; exact hp) (by rw [f0]; exact hep)
      rw [f0] at r2
      have x2 : FM (wI I2 229 19 (sdS (I 230) e p (wF (I 230) k 2) (I1 229 19))) I := (h1.tr (FM.f2 g2)).tr (FM.w9 (by decide))
      have y0 := x2.sr
      have v20 : wI I2 229 19 (sdS (I 230) e p (wF (I 230) k 2) (I1 229 19)) 229 20 = I1 229 20 := by rw [wI_nk (by decide), g2 229 (by decide) (by decide)]
      obtain ⟨I3, g3, r3⟩ := m225 (d := d) (J := J) (I := wI I2 229 19 (sdS (I 230) e p (wF (I 230) k 2) (I1 229 19))) (e := e) (p := p) (t := I1 229 20) (day := wF (I 230) k 2) (by rw [y0]; exact hW) (by rw [y0]; exact hen) (by rw [y0]; exact hp) (by rw [y0]; exact hep)
      rw [y0] at r3
      have x3 : FM (wI I3 229 20 (sdS (I 230) e p (wF (I 230) k 2) (I1 229 20))) I := (x2.tr (FM.f2 g3)).tr (FM.w9 (by decide))
      obtain ⟨I4, g4, s19, s20, r4⟩ := ih (e + 1) _ (by omega) x3
      have hpc : (eF (I 230) e 1).toNatClampNeg = p := by rw [hep, nI_clamp (by omega)]
      refine ⟨I4, g4, ?_, ?_, ?_⟩
      · rw [s19, wI_nk (by decide), g3 229 (by decide) (by decide), wI_eq]
        show _ = sdR (I 230) (wF (I 230) k 2) n (e + 1) (sdS (I 230) e (eF (I 230) e 1).toNatClampNeg (wF (I 230) k 2) (I1 229 19))
        rw [hpc]
      · rw [s20, wI_eq]
        show _ = sdR (I 230) (wF (I 230) k 2) n (e + 1) (sdS (I 230) e (eF (I 230) e 1).toNatClampNeg (wF (I 230) k 2) (I1 229 20))
        rw [hpc]
      · rw [e_226_31]
        simp only [f0, y0, a2, k2c, k2z, k2l, w2, hW.nE.2, n_lt (show e < 2 ^ 31 by omega) (show nE (I 230) < 2 ^ 31 by omega), n_ltt hen, n_lef (show 2 < 546 by decide), r2, v20, r3, nI_add, lc_229, lr_229_0, lc_230, ll_230, bq_s, mS_c, mS_l, mS_r, mS_i, mS_j, mS_pi, mS_pj, lt_st, bq_s, bV_s, bI_s, bJ_s, bA_s, nz_0, nc_0, nz_1, nc_1, nz_2, nc_2, nz_3, nc_3, nz_4, nc_4, nz_5, nc_5, nz_6, nc_6, nz_7, nc_7, nz_8, nc_8, nz_9, nc_9, nz_10, nc_10, nz_11, nc_11, nz_12, nc_12, if_true, if_false, eq_self, true_and, and_true, false_or, or_false, true_or, or_true, false_and, and_false, not_true, not_false_eq_true, ne_eq, ite_self, ite_not, ↓reduceIte]
        exact r4
  have x1 : FM (wI (wI I 229 19 (nI 1 <<< (wF (I 230) k 0 &&& 31))) 229 20 (nI 1 <<< (wF (I 230) k 1 &&& 31))) I := (FM.w9 (by decide)).tr (FM.w9 (by decide))
  obtain ⟨I', g1, s19, s20, r1⟩ := lp (nE (I 230) - e0) e0 _ (by omega) x1
  have z0 : ∀ (I1 : mI) (j : Nat) (v : Int32), wI I1 229 j v 230 = I1 230 := fun I1 j v => wI_F1 230 (by decide)
  refine ⟨I', g1, ?_, ?_, ?_⟩
  · rw [s19, wI_nk (by decide), wI_eq]
    unfold side
    rw [e3, nI_clamp (by omega)]
  · rw [s20, wI_eq]
    unfold side
    rw [e3, nI_clamp (by omega)]
  · rw [c_226 lc_229]
    simp only [a0, a1, a3, k0c, k0z, k0l, k1c, k1z, k1l, k3c, k3z, k3l, w0, w1, w3, z0, lc_229, lr_229_0, lc_230, ll_230, bq_s, mS_c, mS_l, mS_r, mS_i, mS_j, mS_pi, mS_pj, lt_st, bq_s, bV_s, bI_s, bJ_s, bA_s, nz_0, nc_0, nz_1, nc_1, nz_2, nc_2, nz_3, nc_3, nz_4, nc_4, nz_5, nc_5, nz_6, nc_6, nz_7, nc_7, nz_8, nc_8, nz_9, nc_9, nz_10, nc_10, nz_11, nc_11, nz_12, nc_12, if_true, if_false, eq_self, true_and, and_true, false_or, or_false, true_or, or_true, false_and, and_false, not_true, not_false_eq_true, ne_eq, ite_self, ite_not, ↓reduceIte]
    exact r1
theorem m227 (hW : WF (I 230)) (hp : p < nP (I 230)) : ∃ I', FM I' I ∧ am_cal (d + 9) 227 [.ref 229, .int (nI p)] (mS I J) = some (some (.int (acr (I 230) p)), mS I' J) := by
  have h12 := hW.nP.1
  have h8 := hW.nW.1
  have lp : ∀ n k (I1 : mI), k + n = nW (I 230) → FM I1 I → ∃ I', FM I' I ∧ am_X (am_cal (d + 8)) 227 4 [.ref 229, .int (nI p), .int (acU (I 230) p k), .int (nI k)] [] (mS I1 J) = some (some (.int (acr (I 230) p)), mS I' J) := by
    intro n
    induction n with
    | zero =>
      intro k I1 hk h1
      have f0 := h1.sr
      refine ⟨I1, h1, ?_⟩
      rw [e_227_4]
      simp only [f0, hW.nW.2, n_lt (show k < 2 ^ 31 by omega) (show nW (I 230) < 2 ^ 31 by omega), n_ltf (show nW (I 230) ≤ k by omega), n_lef (show 5 < 546 by decide), m1e, lc_229, lr_229_0, lc_230, ll_230, bq_s, mS_c, mS_l, mS_r, mS_i, mS_j, mS_pi, mS_pj, lt_st, bq_s, bV_s, bI_s, bJ_s, bA_s, nz_0, nc_0, nz_1, nc_1, nz_2, nc_2, nz_3, nc_3, nz_4, nc_4, nz_5, nc_5, nz_6, nc_6, nz_7, nc_7, nz_8, nc_8, nz_9, nc_9, nz_10, nc_10, nz_11, nc_11, nz_12, nc_12, if_true, if_false, eq_self, true_and, and_true, false_or, or_false, true_or, or_true, false_and, and_false, not_true, not_false_eq_true, ne_eq, ite_self, ite_not, ↓reduceIte]
      unfold acr
      rw [show k = nW (I 230) by omega]
    | succ n ih =>
      intro k I1 hk h1
      have hkn : k < nW (I 230) := by omega
      have f0 := h1.sr
      obtain ⟨I2, g2, s19, s20, r2⟩ := m226 (d := d) (J := J) (I := I1) (k := k) (by rw [f0]; exact hW) (by rw [f0]; exact hkn)
      rw [f0] at s19 s20
      obtain ⟨I3, g3, r3⟩ := ih (k + 1) I2 (by omega) (h1.tr g2)
      refine ⟨I3, g3, ?_⟩
      rw [acU_s] at r3
      rw [e_227_4]
      simp only [f0, hW.nW.2, n_lt (show k < 2 ^ 31 by omega) (show nW (I 230) < 2 ^ 31 by omega), n_ltt hkn, n_lef (show 5 < 546 by decide), r2, s19, s20, bit_at1 (show p < 32 by omega), nI_add, lc_229, lr_229_0, lc_230, ll_230, bq_s, mS_c, mS_l, mS_r, mS_i, mS_j, mS_pi, mS_pj, lt_st, bq_s, bV_s, bI_s, bJ_s, bA_s, nz_0, nc_0, nz_1, nc_1, nz_2, nc_2, nz_3, nc_3, nz_4, nc_4, nz_5, nc_5, nz_6, nc_6, nz_7, nc_7, nz_8, nc_8, nz_9, nc_9, nz_10, nc_10, nz_11, nc_11, nz_12, nc_12, if_true, if_false, eq_self, true_and, and_true, false_or, or_false, true_or, or_true, false_and, and_false, not_true, not_false_eq_true, ne_eq, ite_self, ite_not, ↓reduceIte]
      cases b0 : bit (side (I 230) k 0) p <;> cases b1 : bit (side (I 230) k 1) p <;> rw [b0, b1] at r3 <;> simp only [Bool.false_eq_true, Bool.true_eq_false, bq_s, mS_c, mS_l, mS_r, mS_i, mS_j, mS_pi, mS_pj, lt_st, bq_s, bV_s, bI_s, bJ_s, bA_s, nz_0, nc_0, nz_1, nc_1, nz_2, nc_2, nz_3, nc_3, nz_4, nc_4, nz_5, nc_5, nz_6, nc_6, nz_7, nc_7, nz_8, nc_8, nz_9, nc_9, nz_10, nc_10, nz_11, nc_11, nz_12, nc_12, if_true, if_false, eq_self, true_and, and_true, false_or, or_false, true_or, or_true, false_and, and_false, not_true, not_false_eq_true, ne_eq, ite_self, ite_not, ↓reduceIte, n_101, n_107, n_11] at r3 ⊢ <;> exact r3
  obtain ⟨I', a, b⟩ := lp (nW (I 230)) 0 I (by omega) FM.rf
  refine ⟨I', a, ?_⟩
  rw [c_227 lc_229]
  exact b
theorem m229 (hW : WF (I 230)) : ∃ I', FM I' I ∧ am_cal (d + 10) 229 [.ref 229, .int x] (mS I J) = some (some (.int (v_wed (I 230) x)), mS I' J) := by
  have h12 := hW.nP.1
  rw [c_229 lc_229, m153 hW, bI_s]
  unfold v_wed
  by_cases hx : isP (I 230) x
  · obtain ⟨p, hp, rfl⟩ := isP_n hW hx
    obtain ⟨I', hF, hr⟩ := m227 (d := d) (J := J) hW hp
    refine ⟨I', hF, ?_⟩
    rw [if_pos hx, if_pos hx, if_neg (by decide), hr, bI_s, nI_clamp (by omega)]
  · exact ⟨I, FM.rf, by rw [if_neg hx, if_neg hx, if_pos nI_0]⟩
end E2
