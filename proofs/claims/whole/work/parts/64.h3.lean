/-! ===== keep and again ===== -/
section H3s

variable {I I' : mI} {J : mJ} {s s' t : Rw} {w p q e c d k n g a b l m : Nat} {x y z u v sort key : Int32}
theorem k137 (hR : Rep I 1 s) (hW : WF s) : ∃ I', (∀ a, (a < 64 ∨ 127 ≤ a) → a ≠ 0 → I' a = I a) ∧ (∀ f, f ≠ 16 → I' 0 f = I 0 f) ∧ I' 0 16 = nI 1 ∧ Rep I' 64 s ∧ am_cal (d + 3) 137 [.ref 0] (mS I J) = some (some (.int (nI 1)), mS I' J) := by
  obtain ⟨I1, a1, a2, a3⟩ := k64 (d := d) (J := J) W64 W1 (by decide) hR hW
  refine ⟨wI I1 0 16 (nI 1), fun a h1 h2 => by rw [wI_F1 a h2, a1 a (by omega)], fun f hf => by rw [wI_nk hf, a1 0 (by omega)], wI_eq, a2.fr hW fun a h1 h2 h3 => wI_F1 a (by omega), ?_⟩
  rw [c_137 lc_0]
  simp only [lc_0, lr_0_0, lr_0_1, a3, bq_s, mS_c, mS_l, mS_r, mS_i, mS_j, mS_pi, mS_pj, lt_st, bq_s, bV_s, bI_s, bJ_s, bA_s, nz_0, nc_0, nz_1, nc_1, nz_2, nc_2, nz_3, nc_3, nz_4, nc_4, nz_5, nc_5, nz_6, nc_6, nz_7, nc_7, nz_8, nc_8, nz_9, nc_9, nz_10, nc_10, nz_11, nc_11, nz_12, nc_12, if_true, if_false, eq_self, true_and, and_true, false_or, or_false, true_or, or_true, false_and, and_false, not_true, not_false_eq_true, ne_eq, ite_self, ite_not, ↓reduceIte, n_101, n_107, n_11]
theorem k138 (hk : ¬ I 0 16 = 0) (hR : Rep I 64 t) (hW : WF t) : ∃ I', FW 1 I' I ∧ Rep I' 1 t ∧ am_cal (d + 3) 138 [.ref 0] (mS I J) = some (some (.int (nI 1)), mS I' J) := by
  obtain ⟨I1, a1, a2, a3⟩ := k64 (d := d) (J := J) W1 W64 (by decide) hR hW
  refine ⟨I1, a1, a2, ?_⟩
  rw [c_138 lc_0]
  simp only [lc_0, lr_0_0, lr_0_1, hk, a3, bq_s, mS_c, mS_l, mS_r, mS_i, mS_j, mS_pi, mS_pj, lt_st, bq_s, bV_s, bI_s, bJ_s, bA_s, nz_0, nc_0, nz_1, nc_1, nz_2, nc_2, nz_3, nc_3, nz_4, nc_4, nz_5, nc_5, nz_6, nc_6, nz_7, nc_7, nz_8, nc_8, nz_9, nc_9, nz_10, nc_10, nz_11, nc_11, nz_12, nc_12, if_true, if_false, eq_self, true_and, and_true, false_or, or_false, true_or, or_true, false_and, and_false, not_true, not_false_eq_true, ne_eq, ite_self, ite_not, ↓reduceIte, n_101, n_107, n_11]
theorem k138n (hk : I 0 16 = 0) : am_cal (d + 1) 138 [.ref 0] (mS I J) = some (some (.int (Int32.ofInt (-3))), mS I J) := by
  rw [c_138 lc_0]
  simp only [lc_0, hk, bq_s, mS_c, mS_l, mS_r, mS_i, mS_j, mS_pi, mS_pj, lt_st, bq_s, bV_s, bI_s, bJ_s, bA_s, nz_0, nc_0, nz_1, nc_1, nz_2, nc_2, nz_3, nc_3, nz_4, nc_4, nz_5, nc_5, nz_6, nc_6, nz_7, nc_7, nz_8, nc_8, nz_9, nc_9, nz_10, nc_10, nz_11, nc_11, nz_12, nc_12, if_true, if_false, eq_self, true_and, and_true, false_or, or_false, true_or, or_true, false_and, and_false, not_true, not_false_eq_true, ne_eq, ite_self, ite_not, ↓reduceIte, n_101, n_107, n_11]
theorem cpA_0 : cpA I a b 0 = I := by
  funext c j
  exact if_neg fun h => absurd h.2 (by omega)
theorem cpA_s (hab : a ≠ b) : wI (cpA I a b n) b n (cpA I a b n a n) = cpA I a b (n + 1) := by
  have e : cpA I a b n a = I a := cpA_n hab
  rw [e]
  funext c j
  unfold wI cpA
  by_cases h : c = b
  · by_cases hj : j = n
    · rw [if_pos ⟨h, hj⟩, if_pos ⟨h, by omega⟩, hj]
    · rw [if_neg (fun hh => hj hh.2)]
      by_cases hl : j < n
      · rw [if_pos ⟨h, hl⟩, if_pos ⟨h, by omega⟩]
      · rw [if_neg (fun hh => hl hh.2), if_neg (fun hh => hl (by omega))]
  · rw [if_neg (fun hh => h hh.1), if_neg (fun hh => h hh.1), if_neg (fun hh => h hh.1)]
theorem m269 : am_cal (d + 1) 269 [.ref 229] (mS I J) = some (some (.int (nI 1)), mS (wI (cpA I 230 231 546) 229 3 (nI 1)) J) := by
  have lp : ∀ n k, k + n = 546 → am_X (am_cal d) 269 2 [.ref 229, .int (nI k)] [] (mS (cpA I 230 231 k) J) = some (some (.int (nI 1)), mS (wI (cpA I 230 231 546) 229 3 (nI 1)) J) := by
    intro n
    induction n with
    | zero =>
      intro k hk
      have : k = 546 := by omega
      subst this
      rw [e_269_2]
      simp only [n_lt (show 546 < 2 ^ 31 by decide) (show 546 < 2 ^ 31 by decide), Nat.lt_irrefl, lc_229, lc_229, lr_229_0, lc_230, ll_230, bq_s, mS_c, mS_l, mS_r, mS_i, mS_j, mS_pi, mS_pj, lt_st, bq_s, bV_s, bI_s, bJ_s, bA_s, nz_0, nc_0, nz_1, nc_1, nz_2, nc_2, nz_3, nc_3, nz_4, nc_4, nz_5, nc_5, nz_6, nc_6, nz_7, nc_7, nz_8, nc_8, nz_9, nc_9, nz_10, nc_10, nz_11, nc_11, nz_12, nc_12, if_true, if_false, eq_self, true_and, and_true, false_or, or_false, true_or, or_true, false_and, and_false, not_true, not_false_eq_true, ne_eq, ite_self, ite_not, ↓reduceIte]
    | succ n ih =>
      intro k hk
      have i0c : (nI (k)).toNatClampNeg = k := nI_clamp (by omega)
      have i0z : (nI (k) < 0) = False := n_ge0 (by omega)
      have i0l : (546 ≤ k) = False := n_lef (by omega)
      have hlt : (k < 546) = True := eq_true (by omega)
      rw [e_269_2]
      simp only [n_lt (show k < 2 ^ 31 by omega) (show 546 < 2 ^ 31 by decide), hlt, lc_229, lr_229_0, lr_229_1, lc_230, ll_230, lc_231, ll_231, i0c, i0z, i0l, cpA_s (show 230 ≠ 231 by decide), nI_add, lc_229, lr_229_0, lc_230, ll_230, bq_s, mS_c, mS_l, mS_r, mS_i, mS_j, mS_pi, mS_pj, lt_st, bq_s, bV_s, bI_s, bJ_s, bA_s, nz_0, nc_0, nz_1, nc_1, nz_2, nc_2, nz_3, nc_3, nz_4, nc_4, nz_5, nc_5, nz_6, nc_6, nz_7, nc_7, nz_8, nc_8, nz_9, nc_9, nz_10, nc_10, nz_11, nc_11, nz_12, nc_12, if_true, if_false, eq_self, true_and, and_true, false_or, or_false, true_or, or_true, false_and, and_false, not_true, not_false_eq_true, ne_eq, ite_self, ite_not, ↓reduceIte]
      exact ih (k + 1) (by omega)
  rw [c_269 lc_229]
  have := lp 546 0 (by omega)
  rw [cpA_0] at this
  exact this
theorem m270 (hk : ¬ I 229 3 = 0) : am_cal (d + 1) 270 [.ref 229] (mS I J) = some (some (.int (nI 1)), mS (cpA I 231 230 546) J) := by
  have lp : ∀ n k, k + n = 546 → am_X (am_cal d) 270 7 [.ref 229, .int (nI k)] [] (mS (cpA I 231 230 k) J) = some (some (.int (nI 1)), mS (cpA I 231 230 546) J) := by
    intro n
    induction n with
    | zero =>
      intro k hk
      have : k = 546 := by omega
      subst this
      rw [e_270_7]
      simp only [n_lt (show 546 < 2 ^ 31 by decide) (show 546 < 2 ^ 31 by decide), Nat.lt_irrefl, lc_229, lr_229_0, lc_230, ll_230, bq_s, mS_c, mS_l, mS_r, mS_i, mS_j, mS_pi, mS_pj, lt_st, bq_s, bV_s, bI_s, bJ_s, bA_s, nz_0, nc_0, nz_1, nc_1, nz_2, nc_2, nz_3, nc_3, nz_4, nc_4, nz_5, nc_5, nz_6, nc_6, nz_7, nc_7, nz_8, nc_8, nz_9, nc_9, nz_10, nc_10, nz_11, nc_11, nz_12, nc_12, if_true, if_false, eq_self, true_and, and_true, false_or, or_false, true_or, or_true, false_and, and_false, not_true, not_false_eq_true, ne_eq, ite_self, ite_not, ↓reduceIte]
    | succ n ih =>
      intro k hk
      have i0c : (nI (k)).toNatClampNeg = k := nI_clamp (by omega)
      have i0z : (nI (k) < 0) = False := n_ge0 (by omega)
      have i0l : (546 ≤ k) = False := n_lef (by omega)
      have hlt : (k < 546) = True := eq_true (by omega)
      rw [e_270_7]
      simp only [n_lt (show k < 2 ^ 31 by omega) (show 546 < 2 ^ 31 by decide), hlt, lc_229, lr_229_0, lr_229_1, lc_230, ll_230, lc_231, ll_231, i0c, i0z, i0l, cpA_s (show 231 ≠ 230 by decide), nI_add, lc_229, lr_229_0, lc_230, ll_230, bq_s, mS_c, mS_l, mS_r, mS_i, mS_j, mS_pi, mS_pj, lt_st, bq_s, bV_s, bI_s, bJ_s, bA_s, nz_0, nc_0, nz_1, nc_1, nz_2, nc_2, nz_3, nc_3, nz_4, nc_4, nz_5, nc_5, nz_6, nc_6, nz_7, nc_7, nz_8, nc_8, nz_9, nc_9, nz_10, nc_10, nz_11, nc_11, nz_12, nc_12, if_true, if_false, eq_self, true_and, and_true, false_or, or_false, true_or, or_true, false_and, and_false, not_true, not_false_eq_true, ne_eq, ite_self, ite_not, ↓reduceIte]
      exact ih (k + 1) (by omega)
  rw [c_270 lc_229]
  have := lp 546 0 (by omega)
  rw [cpA_0] at this
  simp only [lc_229, hk, lc_229, lr_229_0, lc_230, ll_230, bq_s, mS_c, mS_l, mS_r, mS_i, mS_j, mS_pi, mS_pj, lt_st, bq_s, bV_s, bI_s, bJ_s, bA_s, nz_0, nc_0, nz_1, nc_1, nz_2, nc_2, nz_3, nc_3, nz_4, nc_4, nz_5, nc_5, nz_6, nc_6, nz_7, nc_7, nz_8, nc_8, nz_9, nc_9, nz_10, nc_10, nz_11, nc_11, nz_12, nc_12, if_true, if_false, eq_self, true_and, and_true, false_or, or_false, true_or, or_true, false_and, and_false, not_true, not_false_eq_true, ne_eq, ite_self, ite_not, ↓reduceIte]
  exact this
theorem m270n (hk : I 229 3 = 0) : am_cal (d + 1) 270 [.ref 229] (mS I J) = some (some (.int (Int32.ofInt (-3))), mS I J) := by
  rw [c_270 lc_229]
  simp only [lc_229, hk, lc_229, lr_229_0, lc_230, ll_230, bq_s, mS_c, mS_l, mS_r, mS_i, mS_j, mS_pi, mS_pj, lt_st, bq_s, bV_s, bI_s, bJ_s, bA_s, nz_0, nc_0, nz_1, nc_1, nz_2, nc_2, nz_3, nc_3, nz_4, nc_4, nz_5, nc_5, nz_6, nc_6, nz_7, nc_7, nz_8, nc_8, nz_9, nc_9, nz_10, nc_10, nz_11, nc_11, nz_12, nc_12, if_true, if_false, eq_self, true_and, and_true, false_or, or_false, true_or, or_true, false_and, and_false, not_true, not_false_eq_true, ne_eq, ite_self, ite_not, ↓reduceIte]
/-- beyond their 546 places both rows are alike: then the row is the kept one -/
theorem cpA_wR (h : ∀ j, 546 ≤ j → I 231 j = I 230 j) : cpA I 231 230 546 = wR I (I 231) := by
  funext c j
  unfold cpA wR
  by_cases hc : c = 230
  · subst hc
    by_cases hj : j < 546
    · rw [if_pos ⟨rfl, hj⟩, if_pos rfl]
    · rw [if_neg (fun hh => hj hh.2), if_pos rfl, h j (by omega)]
  · rw [if_neg (fun hh => hc hh.1), if_neg hc]
end H3s
