/-! ===== prove: the model ===== -/
section H7s
variable {I I' : mI} {J : mJ} {s s' t : Rw} {w p q e c d k n g a b l m : Nat} {x y z u v sort key : Int32} {h : Nat → Nat}
theorem lN_p (hx : q < 2 ^ 63) : (0 < lg_cmp (lN q) (lN 0)) = (0 < q) := by
  rw [l_gt, LN_lt (by decide) hx]
set_option maxHeartbeats 1000000 in
theorem e241 (hW : WF (I 230)) (hh : HM J h) (hb : ∀ p, p < 12 → h p < 2 ^ 45) : ∀ n k (I1 : mI) (J1 : mJ), k + n = nP (I 230) → (∀ a f, (a ≠ 229 ∨ f ≠ 24) → I1 a f = I a f) → I1 229 24 = nI (rwN h k) → (∀ a, a ≠ 241 → J1 a = J a) → (∀ m, m < rwN h k → ∀ i, i < 3 → J1 241 (3 * m + i) = rwV h k m i) → ∃ I' J', (∀ a f, (a ≠ 229 ∨ f ≠ 24) → I' a f = I a f) ∧ I' 229 24 = nI (rwN h (nP (I 230))) ∧ (∀ a, a ≠ 241 → J' a = J a) ∧ (∀ m, m < rwN h (nP (I 230)) → ∀ i, i < 3 → J' 241 (3 * m + i) = rwV h (nP (I 230)) m i) ∧ am_X (am_cal (d + 2)) 241 14 [.ref 229, .null, .int (nI k)] [] (mS I1 J1) = some (some (.int (nI (rwN h (nP (I 230))))), mS I' J') := by
  have h12 := hW.nP.1
  intro n
  induction n with
  | zero =>
    intro k I1 J1 hk h1 h2 h3 h4
    have hk' : k = nP (I 230) := by omega
    subst hk'
    have h9 : I1 230 1 = nI (nP (I 230)) := by rw [h1 230 1 (Or.inl (by decide))]; exact hW.nP.2
    refine ⟨I1, J1, h1, h2, h3, h4, ?_⟩
    rw [e_241_14]
    simp only [h9, h2, n_lt (show nP (I 230) < 2 ^ 31 by omega) (show nP (I 230) < 2 ^ 31 by omega), Nat.lt_irrefl, n_lef (show 1 < 546 by decide), lc_229, lc_229, lr_229_0, lc_230, ll_230, bq_s, mS_c, mS_l, mS_r, mS_i, mS_j, mS_pi, mS_pj, lt_st, bq_s, bV_s, bI_s, bJ_s, bA_s, nz_0, nc_0, nz_1, nc_1, nz_2, nc_2, nz_3, nc_3, nz_4, nc_4, nz_5, nc_5, nz_6, nc_6, nz_7, nc_7, nz_8, nc_8, nz_9, nc_9, nz_10, nc_10, nz_11, nc_11, nz_12, nc_12, if_true, if_false, eq_self, true_and, and_true, false_or, or_false, true_or, or_true, false_and, and_false, not_true, not_false_eq_true, ne_eq, ite_self, ite_not, ↓reduceIte]
  | succ n ih =>
    intro k I1 J1 hk h1 h2 h3 h4
    have hkn : k < nP (I 230) := by omega
    have hk12 : k < 12 := by omega
    have i0c : (nI (k)).toNatClampNeg = k := nI_clamp (by omega)
    have i0z : (nI (k) < 0) = False := n_ge0 (by omega)
    have i0l : (12 ≤ k) = False := n_lef (by omega)
    have h9 : I1 230 1 = nI (nP (I 230)) := by rw [h1 230 1 (Or.inl (by decide))]; exact hW.nP.2
    have hj : J1 239 k = lN (h k * 16384) := by rw [h3 239 (by decide)]; exact hh k hk12
    have hb2 := hb k hk12
    rw [e_241_14]
    by_cases h0 : h k = 0
    · have hp0 : (0 < h k * 16384) = False := eq_false (by omega)
      obtain ⟨I', J', b1, b2', b3, b4, b5⟩ := ih (k + 1) I1 J1 (by omega) h1 (by rw [rwN_s, if_pos h0]; exact h2) h3 (fun m hm i hi => by rw [rwV_s, if_pos h0]; rw [rwN_s, if_pos h0] at hm; exact h4 m hm i hi)
      refine ⟨I', J', b1, b2', b3, b4, ?_⟩
      simp only [lr_229_17, lc_239, ll_239, h9, n_lt (show k < 2 ^ 31 by omega) (show nP (I 230) < 2 ^ 31 by omega), eq_true hkn, i0c, i0z, i0l, hj, lN_p (show h k * 16384 < 2 ^ 63 by omega), hp0, nI_add, n_lef (show 1 < 546 by decide), lc_229, lc_229, lr_229_0, lc_230, ll_230, bq_s, mS_c, mS_l, mS_r, mS_i, mS_j, mS_pi, mS_pj, lt_st, bq_s, bV_s, bI_s, bJ_s, bA_s, nz_0, nc_0, nz_1, nc_1, nz_2, nc_2, nz_3, nc_3, nz_4, nc_4, nz_5, nc_5, nz_6, nc_6, nz_7, nc_7, nz_8, nc_8, nz_9, nc_9, nz_10, nc_10, nz_11, nc_11, nz_12, nc_12, if_true, if_false, eq_self, true_and, and_true, false_or, or_false, true_or, or_true, false_and, and_false, not_true, not_false_eq_true, ne_eq, ite_self, ite_not, ↓reduceIte]
      exact b5
    · have hp0 : (0 < h k * 16384) = True := eq_true (by omega)
      have hle : rwN h k ≤ k := rwN_le
      generalize hr : rwN h k = r at *
      have hr12 : r < 12 := by omega
      have j0c : (nI (3 * r)).toNatClampNeg = 3 * r := nI_clamp (by omega)
      have j0z : (nI (3 * r) < 0) = False := n_ge0 (by omega)
      have j0l : (36 ≤ 3 * r) = False := n_lef (by omega)
      have j1c : (nI (3 * r + 1)).toNatClampNeg = 3 * r + 1 := nI_clamp (by omega)
      have j1z : (nI (3 * r + 1) < 0) = False := n_ge0 (by omega)
      have j1l : (36 ≤ 3 * r + 1) = False := n_lef (by omega)
      have j2c : (nI (3 * r + 2)).toNatClampNeg = 3 * r + 2 := nI_clamp (by omega)
      have j2z : (nI (3 * r + 2) < 0) = False := n_ge0 (by omega)
      have j2l : (36 ≤ 3 * r + 2) = False := n_lef (by omega)
      have p0 : nI 3 * nI r = nI (3 * r) := pk_mul _ _
      have xk : Int32.toInt64 (nI k) = lN k := nI_l (by omega)
      have k1 : ∀ (J2 : mJ) (i : Nat) (v : Int64), wJ J2 241 i v 239 = J2 239 := fun J2 i v => funext fun _ => wJ_ne (by decide)
      obtain ⟨I', J', b1, b2', b3, b4, b5⟩ := ih (k + 1) (wI I1 229 24 (nI (r + 1))) (wJ (wJ (wJ J1 241 (3 * r) (lN k)) 241 (3 * r + 1) (low (h k) (nI 0))) 241 (3 * r + 2) (low (h k) (nI 1))) (by omega)
        (fun a f hh => by
          rcases hh with hh | hh
          · rw [wI_ne hh]; exact h1 a f (Or.inl hh)
          · rw [wI_nk hh]; exact h1 a f (Or.inr hh))
        (by rw [wI_eq, rwN_s, if_neg h0, hr])
        (fun a ha => by
          funext j
          rw [wJ_ne ha, wJ_ne ha, wJ_ne ha]; exact congrFun (h3 a ha) j)
        (fun m hm i hi => by
          rw [rwN_s, if_neg h0, hr] at hm
          rw [rwV_s, if_neg h0, hr]
          by_cases hmr : m = r
          · subst hmr
            rw [if_pos rfl]
            rcases (show i = 0 ∨ i = 1 ∨ i = 2 by omega) with rfl | rfl | rfl
            · rw [wJ_nk (by omega), wJ_nk (by omega)]; exact wJ_eq
            · rw [wJ_nk (by omega), wJ_eq]; rfl
            · rw [wJ_eq]; rfl
          · rw [if_neg hmr, wJ_nk (by omega), wJ_nk (by omega), wJ_nk (by omega)]
            exact h4 m (by omega) i hi)
      refine ⟨I', J', b1, b2', b3, b4, ?_⟩
      simp only [lr_229_17, lr_229_23, lc_241, ll_241, lc_239, ll_239, h9, h2, n_lt (show k < 2 ^ 31 by omega) (show nP (I 230) < 2 ^ 31 by omega), eq_true hkn, i0c, i0z, i0l, j0c, j0z, j0l, j1c, j1z, j1l, j2c, j2z, j2l, hj, k1, lN_p (show h k * 16384 < 2 ^ 63 by omega), hp0, p0, xk, m158 hb2, nI_add, n_lef (show 1 < 546 by decide), lc_229, nn_0_1, nn_0_2, nn_0_3, nn_0_4, nn_0_5, nn_0_6, nn_0_7, nn_0_8, nn_1_0, nn_1_2, nn_1_3, nn_1_4, nn_1_5, nn_1_6, nn_1_7, nn_1_8, nn_2_0, nn_2_1, nn_2_3, nn_2_4, nn_2_5, nn_2_6, nn_2_7, nn_2_8, nn_3_0, nn_3_1, nn_3_2, nn_3_4, nn_3_5, nn_3_6, nn_3_7, nn_3_8, nn_4_0, nn_4_1, nn_4_2, nn_4_3, nn_4_5, nn_4_6, nn_4_7, nn_4_8, nn_5_0, nn_5_1, nn_5_2, nn_5_3, nn_5_4, nn_5_6, nn_5_7, nn_5_8, nn_6_0, nn_6_1, nn_6_2, nn_6_3, nn_6_4, nn_6_5, nn_6_7, nn_6_8, nn_7_0, nn_7_1, nn_7_2, nn_7_3, nn_7_4, nn_7_5, nn_7_6, nn_7_8, nn_8_0, nn_8_1, nn_8_2, nn_8_3, nn_8_4, nn_8_5, nn_8_6, nn_8_7, nq_0, nq_1, nq_2, nq_3, nq_4, nq_5, nq_6, nq_7, nq_8, lc_229, lr_229_0, lc_230, ll_230, bq_s, mS_c, mS_l, mS_r, mS_i, mS_j, mS_pi, mS_pj, lt_st, bq_s, bV_s, bI_s, bJ_s, bA_s, nz_0, nc_0, nz_1, nc_1, nz_2, nc_2, nz_3, nc_3, nz_4, nc_4, nz_5, nc_5, nz_6, nc_6, nz_7, nc_7, nz_8, nc_8, nz_9, nc_9, nz_10, nc_10, nz_11, nc_11, nz_12, nc_12, if_true, if_false, eq_self, true_and, and_true, false_or, or_false, true_or, or_true, false_and, and_false, not_true, not_false_eq_true, ne_eq, ite_self, ite_not, ↓reduceIte]
      exact b5
theorem m241 (hW : WF (I 230)) (hc : c < nC (I 230)) : ∃ I' J', (∀ a f, a ≠ 236 → a ≠ 237 → a ≠ 238 → (a ≠ 229 ∨ f ≠ 24) → I' a f = I a f) ∧ I' 229 24 = nI (rwN (shA (I 230) c) (nP (I 230))) ∧ (∀ a, a ≠ 239 → a ≠ 241 → J' a = J a) ∧ (∀ m, m < rwN (shA (I 230) c) (nP (I 230)) → ∀ i, i < 3 → J' 241 (3 * m + i) = rwV (shA (I 230) c) (nP (I 230)) m i) ∧ am_cal (d + 9) 241 [.ref 229, .int (nI c)] (mS I J) = some (some (.int (nI (rwN (shA (I 230) c) (nP (I 230))))), mS I' J') := by
  have hc12 := hW.nC.1
  have ew : WH = 4194304 := rfl
  obtain ⟨I1, J1, a1, a2, a3, a4⟩ := m210 (d := d) (J := J) hW hc
  have f0 : wI I1 229 24 (nI 0) 230 = I 230 := by rw [wI_F1 230 (by decide), a1 230 (by decide) (by decide) (by decide)]
  have hW1 : WF (wI I1 229 24 (nI 0) 230) := by rw [f0]; exact hW
  obtain ⟨I2, J2, b1, b2', b3, b4, b5⟩ := e241 (d := d + 6) (J := J1) (I := wI I1 229 24 (nI 0)) hW1 a3 (fun p hp => by have := shA_le hW hc p; omega) (nP (I 230)) 0 (wI I1 229 24 (nI 0)) J1 (by rw [f0]; omega) (fun _ _ _ => rfl) wI_eq (fun _ _ => rfl) (fun m hm => absurd hm (by simp [rwN]))
  rw [f0] at b2' b4 b5
  have hx : isCl (I 230) (nI c) := ⟨by rw [n_ge0 (show c < 2 ^ 31 by omega)]; exact id, by rw [hW.nC.2, n_lt (by omega) (by omega)]; exact hc⟩
  refine ⟨I2, J2, fun a f g1 g2 g3 h2 => ?_, b2', fun a h1 h2 => by rw [b3 a h2, a2 a h1], b4, ?_⟩
  · rw [b1 a f h2]
    rcases h2 with h2 | h2
    · rw [wI_ne h2, a1 a g1 g2 g3]
    · rw [wI_nk h2, a1 a g1 g2 g3]
  · rw [c_241 lc_229, m203 hW, bI_s, if_pos hx, if_neg (by decide), a4]
    simp only [lc_229, lc_229, lr_229_0, lc_230, ll_230, bq_s, mS_c, mS_l, mS_r, mS_i, mS_j, mS_pi, mS_pj, lt_st, bq_s, bV_s, bI_s, bJ_s, bA_s, nz_0, nc_0, nz_1, nc_1, nz_2, nc_2, nz_3, nc_3, nz_4, nc_4, nz_5, nc_5, nz_6, nc_6, nz_7, nc_7, nz_8, nc_8, nz_9, nc_9, nz_10, nc_10, nz_11, nc_11, nz_12, nc_12, if_true, if_false, eq_self, true_and, and_true, false_or, or_false, true_or, or_true, false_and, and_false, not_true, not_false_eq_true, ne_eq, ite_self, ite_not, ↓reduceIte]
    exact b5
theorem m241n (hW : WF (I 230)) (hx : ¬ isCl (I 230) x) : am_cal (d + 3) 241 [.ref 229, .int x] (mS I J) = some (some (.int (Int32.ofInt (-1))), mS I J) := by
  rw [c_241 lc_229, m203 hW, bI_s, if_neg hx, if_pos nI_0]
end H7s
