/-! ===== the class: its calls that write ===== -/
section G6s
variable {I I' : mI} {J : mJ} {s s' : Rw} {w p q e c d k n g : Nat} {x y z u v sort key : Int32}
/-- what a call that writes may leave otherwise -/
abbrev FP (I' I : mI) : Prop := ∀ a, (a < 1 ∨ 64 ≤ a) → a ≠ 196 → a ≠ 197 → I' a = I a
theorem FW.fp (h : FW 1 I' I) : FP I' I := fun a ha _ _ => h a (by omega)
theorem FC.fp (h : FC I' I) : FP I' I := fun a ha h1 h2 => h a (by omega) h1 h2
theorem FP.tr {I1 : mI} (h : FP I' I1) (h2 : FP I1 I) : FP I' I := fun a ha b c => (h a ha b c).trans (h2 a ha b c)
theorem FP.rf : FP I I := fun _ _ _ _ => rfl
theorem z_t : (nI 0 = (0 : Int32)) = True := eq_true nI_0
theorem z_f : (nI 1 = (0 : Int32)) = False := eq_false (by decide)
theorem k93 (hR : Rep I 1 s) (hW : WF s) : ∃ I', FP I' I ∧ Rep I' 1 (tr_born s) ∧ am_cal (d + 5) 93 [.ref 0] (mS I J) = some (some (.int (v_born s)), mS I' J) := by
  obtain ⟨I', a, b, h⟩ := k73 (d := d) (J := J) W1 hR hW
  refine ⟨I', a.fp, b, ?_⟩
  rw [c_93 lc_0]
  simp only [lc_0, lr_0_0, h, bq_s, mS_c, mS_l, mS_r, mS_i, mS_j, mS_pi, mS_pj, lt_st, bq_s, bV_s, bI_s, bJ_s, bA_s, nz_0, nc_0, nz_1, nc_1, nz_2, nc_2, nz_3, nc_3, nz_4, nc_4, nz_5, nc_5, nz_6, nc_6, nz_7, nc_7, nz_8, nc_8, nz_9, nc_9, nz_10, nc_10, nz_11, nc_11, nz_12, nc_12, if_true, if_false, eq_self, true_and, and_true, false_or, or_false, true_or, or_true, false_and, and_false, not_true, not_false_eq_true, ne_eq, ite_self, ite_not, ↓reduceIte, n_101, n_107, n_11]
theorem k95 (hR : Rep I 1 s) (hW : WF s) : ∃ I', FP I' I ∧ Rep I' 1 (tr_wake s x) ∧ am_cal (d + 4) 95 [.ref 0, .int x] (mS I J) = some (some (.int (v_wake s x)), mS I' J) := by
  have h12 := hW.nP.1
  rw [c_95 lc_0]
  simp only [lc_0, lr_0_0, k65 W1 hR, bq_s, mS_c, mS_l, mS_r, mS_i, mS_j, mS_pi, mS_pj, lt_st, bq_s, bV_s, bI_s, bJ_s, bA_s, nz_0, nc_0, nz_1, nc_1, nz_2, nc_2, nz_3, nc_3, nz_4, nc_4, nz_5, nc_5, nz_6, nc_6, nz_7, nc_7, nz_8, nc_8, nz_9, nc_9, nz_10, nc_10, nz_11, nc_11, nz_12, nc_12, if_true, if_false, eq_self, true_and, and_true, false_or, or_false, true_or, or_true, false_and, and_false, not_true, not_false_eq_true, ne_eq, ite_self, ite_not, ↓reduceIte, n_101, n_107, n_11]
  unfold v_wake tr_wake
  by_cases hx : isP s x
  · rw [if_pos hx, if_pos hx, if_pos hx]
    obtain ⟨p, hp, rfl⟩ := isP_n hW hx
    have hp12 : p < 12 := by omega
    have i0c : (nI (p)).toNatClampNeg = p := nI_clamp (by omega)
    have i0z : (nI (p) < 0) = False := n_ge0 (by omega)
    have i0l : (12 ≤ p) = False := n_lef (by omega)
    have f0 := hR.pF hp (show 0 < 8 by decide)
    simp only [w_C W1, w_R0 W1, w_C1 W1, w_L1 W1, w_rp W1 hp12, w_cp W1 hp12, i0c, i0z, i0l, f0, bq_s, mS_c, mS_l, mS_r, mS_i, mS_j, mS_pi, mS_pj, lt_st, bq_s, bV_s, bI_s, bJ_s, bA_s, nz_0, nc_0, nz_1, nc_1, nz_2, nc_2, nz_3, nc_3, nz_4, nc_4, nz_5, nc_5, nz_6, nc_6, nz_7, nc_7, nz_8, nc_8, nz_9, nc_9, nz_10, nc_10, nz_11, nc_11, nz_12, nc_12, if_true, if_false, eq_self, true_and, and_true, false_or, or_false, true_or, or_true, false_and, and_false, not_true, not_false_eq_true, ne_eq, ite_self, ite_not, ↓reduceIte, n_101, n_107, n_11]
    by_cases h5 : pF s p 0 = nI 5
    · rw [if_pos h5, if_pos h5, if_pos h5]
      obtain ⟨I', a, b, h⟩ := k76 (d := d) (J := J) W1 hR hW hp h5
      refine ⟨I', a.fp, b, ?_⟩
      simp only [h, lc_0, lr_0_0, z_t, z_f, bq_s, mS_c, mS_l, mS_r, mS_i, mS_j, mS_pi, mS_pj, lt_st, bq_s, bV_s, bI_s, bJ_s, bA_s, nz_0, nc_0, nz_1, nc_1, nz_2, nc_2, nz_3, nc_3, nz_4, nc_4, nz_5, nc_5, nz_6, nc_6, nz_7, nc_7, nz_8, nc_8, nz_9, nc_9, nz_10, nc_10, nz_11, nc_11, nz_12, nc_12, if_true, if_false, eq_self, true_and, and_true, false_or, or_false, true_or, or_true, false_and, and_false, not_true, not_false_eq_true, ne_eq, ite_self, ite_not, ↓reduceIte, n_101, n_107, n_11]
    · rw [if_neg h5, if_neg h5, if_neg h5]
      exact ⟨I, FP.rf, hR, by simp only [z_t, z_f, bq_s, mS_c, mS_l, mS_r, mS_i, mS_j, mS_pi, mS_pj, lt_st, bq_s, bV_s, bI_s, bJ_s, bA_s, nz_0, nc_0, nz_1, nc_1, nz_2, nc_2, nz_3, nc_3, nz_4, nc_4, nz_5, nc_5, nz_6, nc_6, nz_7, nc_7, nz_8, nc_8, nz_9, nc_9, nz_10, nc_10, nz_11, nc_11, nz_12, nc_12, if_true, if_false, eq_self, true_and, and_true, false_or, or_false, true_or, or_true, false_and, and_false, not_true, not_false_eq_true, ne_eq, ite_self, ite_not, ↓reduceIte, n_101, n_107, n_11]⟩
  · rw [if_neg hx, if_neg hx, if_neg hx]
    exact ⟨I, FP.rf, hR, by simp only [z_t, z_f, bq_s, mS_c, mS_l, mS_r, mS_i, mS_j, mS_pi, mS_pj, lt_st, bq_s, bV_s, bI_s, bJ_s, bA_s, nz_0, nc_0, nz_1, nc_1, nz_2, nc_2, nz_3, nc_3, nz_4, nc_4, nz_5, nc_5, nz_6, nc_6, nz_7, nc_7, nz_8, nc_8, nz_9, nc_9, nz_10, nc_10, nz_11, nc_11, nz_12, nc_12, if_true, if_false, eq_self, true_and, and_true, false_or, or_false, true_or, or_true, false_and, and_false, not_true, not_false_eq_true, ne_eq, ite_self, ite_not, ↓reduceIte, n_101, n_107, n_11]⟩
theorem k97 (hR : Rep I 1 s) (hW : WF s) : ∃ I', FP I' I ∧ Rep I' 1 (tr_end s x) ∧ am_cal (d + 4) 97 [.ref 0, .int x] (mS I J) = some (some (.int (v_end s x)), mS I' J) := by
  have h12 := hW.nP.1
  rw [c_97 lc_0]
  simp only [lc_0, lr_0_0, k65 W1 hR, bq_s, mS_c, mS_l, mS_r, mS_i, mS_j, mS_pi, mS_pj, lt_st, bq_s, bV_s, bI_s, bJ_s, bA_s, nz_0, nc_0, nz_1, nc_1, nz_2, nc_2, nz_3, nc_3, nz_4, nc_4, nz_5, nc_5, nz_6, nc_6, nz_7, nc_7, nz_8, nc_8, nz_9, nc_9, nz_10, nc_10, nz_11, nc_11, nz_12, nc_12, if_true, if_false, eq_self, true_and, and_true, false_or, or_false, true_or, or_true, false_and, and_false, not_true, not_false_eq_true, ne_eq, ite_self, ite_not, ↓reduceIte, n_101, n_107, n_11]
  unfold v_end tr_end
  by_cases hx : isP s x
  · rw [if_pos hx, if_pos hx, if_pos hx]
    obtain ⟨p, hp, rfl⟩ := isP_n hW hx
    simp only [k69 W1 hR hW hp, nI_clamp (show p < 2 ^ 31 by omega), bq_s, mS_c, mS_l, mS_r, mS_i, mS_j, mS_pi, mS_pj, lt_st, bq_s, bV_s, bI_s, bJ_s, bA_s, nz_0, nc_0, nz_1, nc_1, nz_2, nc_2, nz_3, nc_3, nz_4, nc_4, nz_5, nc_5, nz_6, nc_6, nz_7, nc_7, nz_8, nc_8, nz_9, nc_9, nz_10, nc_10, nz_11, nc_11, nz_12, nc_12, if_true, if_false, eq_self, true_and, and_true, false_or, or_false, true_or, or_true, false_and, and_false, not_true, not_false_eq_true, ne_eq, ite_self, ite_not, ↓reduceIte, n_101, n_107, n_11]
    by_cases h6 : pF s p 0 = nI 6
    · rw [if_pos h6, if_pos h6, if_pos h6]
      exact ⟨I, FP.rf, hR, by simp only [z_t, z_f, bq_s, mS_c, mS_l, mS_r, mS_i, mS_j, mS_pi, mS_pj, lt_st, bq_s, bV_s, bI_s, bJ_s, bA_s, nz_0, nc_0, nz_1, nc_1, nz_2, nc_2, nz_3, nc_3, nz_4, nc_4, nz_5, nc_5, nz_6, nc_6, nz_7, nc_7, nz_8, nc_8, nz_9, nc_9, nz_10, nc_10, nz_11, nc_11, nz_12, nc_12, if_true, if_false, eq_self, true_and, and_true, false_or, or_false, true_or, or_true, false_and, and_false, not_true, not_false_eq_true, ne_eq, ite_self, ite_not, ↓reduceIte, n_101, n_107, n_11]⟩
    · rw [if_neg h6, if_neg h6, if_neg h6]
      obtain ⟨I', a, b, h⟩ := k77 (d := d) (J := J) W1 hR hW hp h6
      refine ⟨I', a.fp, b, ?_⟩
      simp only [h, lc_0, lr_0_0, z_t, z_f, bq_s, mS_c, mS_l, mS_r, mS_i, mS_j, mS_pi, mS_pj, lt_st, bq_s, bV_s, bI_s, bJ_s, bA_s, nz_0, nc_0, nz_1, nc_1, nz_2, nc_2, nz_3, nc_3, nz_4, nc_4, nz_5, nc_5, nz_6, nc_6, nz_7, nc_7, nz_8, nc_8, nz_9, nc_9, nz_10, nc_10, nz_11, nc_11, nz_12, nc_12, if_true, if_false, eq_self, true_and, and_true, false_or, or_false, true_or, or_true, false_and, and_false, not_true, not_false_eq_true, ne_eq, ite_self, ite_not, ↓reduceIte, n_101, n_107, n_11]
  · rw [if_neg hx, if_neg hx, if_neg hx]
    exact ⟨I, FP.rf, hR, by simp only [z_t, z_f, bq_s, mS_c, mS_l, mS_r, mS_i, mS_j, mS_pi, mS_pj, lt_st, bq_s, bV_s, bI_s, bJ_s, bA_s, nz_0, nc_0, nz_1, nc_1, nz_2, nc_2, nz_3, nc_3, nz_4, nc_4, nz_5, nc_5, nz_6, nc_6, nz_7, nc_7, nz_8, nc_8, nz_9, nc_9, nz_10, nc_10, nz_11, nc_11, nz_12, nc_12, if_true, if_false, eq_self, true_and, and_true, false_or, or_false, true_or, or_true, false_and, and_false, not_true, not_false_eq_true, ne_eq, ite_self, ite_not, ↓reduceIte, n_101, n_107, n_11]⟩
theorem k108 (hR : Rep I 1 s) (hW : WF s) : ∃ I', FP I' I ∧ Rep I' 1 (tr_deed s x) ∧ am_cal (d + 3) 108 [.ref 0, .int x] (mS I J) = some (some (.int (v_deed s x)), mS I' J) := by
  have h12 := hW.nP.1
  rw [c_108 lc_0]
  simp only [lc_0, lr_0_0, k65 W1 hR, bq_s, mS_c, mS_l, mS_r, mS_i, mS_j, mS_pi, mS_pj, lt_st, bq_s, bV_s, bI_s, bJ_s, bA_s, nz_0, nc_0, nz_1, nc_1, nz_2, nc_2, nz_3, nc_3, nz_4, nc_4, nz_5, nc_5, nz_6, nc_6, nz_7, nc_7, nz_8, nc_8, nz_9, nc_9, nz_10, nc_10, nz_11, nc_11, nz_12, nc_12, if_true, if_false, eq_self, true_and, and_true, false_or, or_false, true_or, or_true, false_and, and_false, not_true, not_false_eq_true, ne_eq, ite_self, ite_not, ↓reduceIte, n_101, n_107, n_11]
  unfold v_deed tr_deed
  by_cases hx : isP s x
  · rw [if_pos hx, if_pos hx, if_pos hx]
    obtain ⟨p, hp, rfl⟩ := isP_n hW hx
    simp only [k68 W1 hR hW hp, nI_clamp (show p < 2 ^ 31 by omega), bq_s, mS_c, mS_l, mS_r, mS_i, mS_j, mS_pi, mS_pj, lt_st, bq_s, bV_s, bI_s, bJ_s, bA_s, nz_0, nc_0, nz_1, nc_1, nz_2, nc_2, nz_3, nc_3, nz_4, nc_4, nz_5, nc_5, nz_6, nc_6, nz_7, nc_7, nz_8, nc_8, nz_9, nc_9, nz_10, nc_10, nz_11, nc_11, nz_12, nc_12, if_true, if_false, eq_self, true_and, and_true, false_or, or_false, true_or, or_true, false_and, and_false, not_true, not_false_eq_true, ne_eq, ite_self, ite_not, ↓reduceIte, n_101, n_107, n_11]
    by_cases h6 : isAw s p
    · rw [if_pos h6, if_pos h6, if_pos h6]
      obtain ⟨I', a, b, h⟩ := k82 (x := nI p) (d := d + 1) (J := J) W1 hR hW
      refine ⟨I', a.fp, b, ?_⟩
      simp only [h, lc_0, lr_0_0, z_t, z_f, bq_s, mS_c, mS_l, mS_r, mS_i, mS_j, mS_pi, mS_pj, lt_st, bq_s, bV_s, bI_s, bJ_s, bA_s, nz_0, nc_0, nz_1, nc_1, nz_2, nc_2, nz_3, nc_3, nz_4, nc_4, nz_5, nc_5, nz_6, nc_6, nz_7, nc_7, nz_8, nc_8, nz_9, nc_9, nz_10, nc_10, nz_11, nc_11, nz_12, nc_12, if_true, if_false, eq_self, true_and, and_true, false_or, or_false, true_or, or_true, false_and, and_false, not_true, not_false_eq_true, ne_eq, ite_self, ite_not, ↓reduceIte, n_101, n_107, n_11]
    · rw [if_neg h6, if_neg h6, if_neg h6]
      exact ⟨I, FP.rf, hR, by simp only [z_t, z_f, bq_s, mS_c, mS_l, mS_r, mS_i, mS_j, mS_pi, mS_pj, lt_st, bq_s, bV_s, bI_s, bJ_s, bA_s, nz_0, nc_0, nz_1, nc_1, nz_2, nc_2, nz_3, nc_3, nz_4, nc_4, nz_5, nc_5, nz_6, nc_6, nz_7, nc_7, nz_8, nc_8, nz_9, nc_9, nz_10, nc_10, nz_11, nc_11, nz_12, nc_12, if_true, if_false, eq_self, true_and, and_true, false_or, or_false, true_or, or_true, false_and, and_false, not_true, not_false_eq_true, ne_eq, ite_self, ite_not, ↓reduceIte, n_101, n_107, n_11]⟩
  · rw [if_neg hx, if_neg hx, if_neg hx]
    exact ⟨I, FP.rf, hR, by simp only [z_t, z_f, bq_s, mS_c, mS_l, mS_r, mS_i, mS_j, mS_pi, mS_pj, lt_st, bq_s, bV_s, bI_s, bJ_s, bA_s, nz_0, nc_0, nz_1, nc_1, nz_2, nc_2, nz_3, nc_3, nz_4, nc_4, nz_5, nc_5, nz_6, nc_6, nz_7, nc_7, nz_8, nc_8, nz_9, nc_9, nz_10, nc_10, nz_11, nc_11, nz_12, nc_12, if_true, if_false, eq_self, true_and, and_true, false_or, or_false, true_or, or_true, false_and, and_false, not_true, not_false_eq_true, ne_eq, ite_self, ite_not, ↓reduceIte, n_101, n_107, n_11]⟩
theorem k104 (hR : Rep I 1 s) (hW : WF s) : ∃ I', FP I' I ∧ Rep I' 1 (tr_claim s x y z) ∧ am_cal (d + 3) 104 [.ref 0, .int x, .int y, .int z] (mS I J) = some (some (.int (v_claim s x y z)), mS I' J) := by
  have h12 := hW.nP.1
  rw [c_104 lc_0, k148]
  simp only [lc_0, lr_0_0, k65 W1 hR, bq_s, mS_c, mS_l, mS_r, mS_i, mS_j, mS_pi, mS_pj, lt_st, bq_s, bV_s, bI_s, bJ_s, bA_s, nz_0, nc_0, nz_1, nc_1, nz_2, nc_2, nz_3, nc_3, nz_4, nc_4, nz_5, nc_5, nz_6, nc_6, nz_7, nc_7, nz_8, nc_8, nz_9, nc_9, nz_10, nc_10, nz_11, nc_11, nz_12, nc_12, if_true, if_false, eq_self, true_and, and_true, false_or, or_false, true_or, or_true, false_and, and_false, not_true, not_false_eq_true, ne_eq, ite_self, ite_not, ↓reduceIte, n_101, n_107, n_11]
  unfold v_claim tr_claim
  have bad : ¬ okCl s x y z → ∃ I', FP I' I ∧ Rep I' 1 (if okCl s x y z then (if isAw s y.toNatClampNeg then (if nC s < 12 then clS s x y z else s) else s) else s) ∧ some (some (Value.int (Int32.ofInt (-1))), mS I J) = some (some (.int (if okCl s x y z then (if isAw s y.toNatClampNeg then (if nC s < 12 then nI (nC s) else Int32.ofInt (-2)) else Int32.ofInt (-4)) else Int32.ofInt (-1))), mS I' J) := fun hn => ⟨I, FP.rf, by rw [if_neg hn]; exact hR, by rw [if_neg hn]⟩
  by_cases hx : i2 x
  · by_cases hy : isP s y
    · by_cases h1 : z < nI 1
      · simp only [eq_true h1, if_pos hx, if_pos hy, z_t, z_f, bq_s, mS_c, mS_l, mS_r, mS_i, mS_j, mS_pi, mS_pj, lt_st, bq_s, bV_s, bI_s, bJ_s, bA_s, nz_0, nc_0, nz_1, nc_1, nz_2, nc_2, nz_3, nc_3, nz_4, nc_4, nz_5, nc_5, nz_6, nc_6, nz_7, nc_7, nz_8, nc_8, nz_9, nc_9, nz_10, nc_10, nz_11, nc_11, nz_12, nc_12, if_true, if_false, eq_self, true_and, and_true, false_or, or_false, true_or, or_true, false_and, and_false, not_true, not_false_eq_true, ne_eq, ite_self, ite_not, ↓reduceIte, n_101, n_107, n_11]
        exact bad fun h => h.2.2.1 h1
      · by_cases h2 : nI 9999 < z
        · simp only [eq_false h1, eq_true h2, if_pos hx, if_pos hy, z_t, z_f, bq_s, mS_c, mS_l, mS_r, mS_i, mS_j, mS_pi, mS_pj, lt_st, bq_s, bV_s, bI_s, bJ_s, bA_s, nz_0, nc_0, nz_1, nc_1, nz_2, nc_2, nz_3, nc_3, nz_4, nc_4, nz_5, nc_5, nz_6, nc_6, nz_7, nc_7, nz_8, nc_8, nz_9, nc_9, nz_10, nc_10, nz_11, nc_11, nz_12, nc_12, if_true, if_false, eq_self, true_and, and_true, false_or, or_false, true_or, or_true, false_and, and_false, not_true, not_false_eq_true, ne_eq, ite_self, ite_not, ↓reduceIte, n_101, n_107, n_11]
          exact bad fun h => h.2.2.2 h2
        · have hk : okCl s x y z := ⟨hx, hy, h1, h2⟩
          rw [if_pos hx, if_pos hy, if_pos hk, if_pos hk, if_neg h1, if_neg h2]
          obtain ⟨p, hp, rfl⟩ := isP_n hW hy
          simp only [k68 W1 hR hW hp, nI_clamp (show p < 2 ^ 31 by omega), z_t, z_f, bq_s, mS_c, mS_l, mS_r, mS_i, mS_j, mS_pi, mS_pj, lt_st, bq_s, bV_s, bI_s, bJ_s, bA_s, nz_0, nc_0, nz_1, nc_1, nz_2, nc_2, nz_3, nc_3, nz_4, nc_4, nz_5, nc_5, nz_6, nc_6, nz_7, nc_7, nz_8, nc_8, nz_9, nc_9, nz_10, nc_10, nz_11, nc_11, nz_12, nc_12, if_true, if_false, eq_self, true_and, and_true, false_or, or_false, true_or, or_true, false_and, and_false, not_true, not_false_eq_true, ne_eq, ite_self, ite_not, ↓reduceIte, n_101, n_107, n_11]
          by_cases h6 : isAw s p
          · rw [if_pos h6, if_pos h6, if_pos h6]
            obtain ⟨I', a, b, h⟩ := k81 (x := x) (y := nI p) (z := z) (d := d) (J := J) W1 hR hW
            refine ⟨I', a.fp, b, ?_⟩
            simp only [h, lc_0, lr_0_0, z_t, z_f, bq_s, mS_c, mS_l, mS_r, mS_i, mS_j, mS_pi, mS_pj, lt_st, bq_s, bV_s, bI_s, bJ_s, bA_s, nz_0, nc_0, nz_1, nc_1, nz_2, nc_2, nz_3, nc_3, nz_4, nc_4, nz_5, nc_5, nz_6, nc_6, nz_7, nc_7, nz_8, nc_8, nz_9, nc_9, nz_10, nc_10, nz_11, nc_11, nz_12, nc_12, if_true, if_false, eq_self, true_and, and_true, false_or, or_false, true_or, or_true, false_and, and_false, not_true, not_false_eq_true, ne_eq, ite_self, ite_not, ↓reduceIte, n_101, n_107, n_11]
          · rw [if_neg h6, if_neg h6, if_neg h6]
            exact ⟨I, FP.rf, hR, by simp only [z_t, z_f, bq_s, mS_c, mS_l, mS_r, mS_i, mS_j, mS_pi, mS_pj, lt_st, bq_s, bV_s, bI_s, bJ_s, bA_s, nz_0, nc_0, nz_1, nc_1, nz_2, nc_2, nz_3, nc_3, nz_4, nc_4, nz_5, nc_5, nz_6, nc_6, nz_7, nc_7, nz_8, nc_8, nz_9, nc_9, nz_10, nc_10, nz_11, nc_11, nz_12, nc_12, if_true, if_false, eq_self, true_and, and_true, false_or, or_false, true_or, or_true, false_and, and_false, not_true, not_false_eq_true, ne_eq, ite_self, ite_not, ↓reduceIte, n_101, n_107, n_11]⟩
    · simp only [if_pos hx, if_neg hy, z_t, z_f, bq_s, mS_c, mS_l, mS_r, mS_i, mS_j, mS_pi, mS_pj, lt_st, bq_s, bV_s, bI_s, bJ_s, bA_s, nz_0, nc_0, nz_1, nc_1, nz_2, nc_2, nz_3, nc_3, nz_4, nc_4, nz_5, nc_5, nz_6, nc_6, nz_7, nc_7, nz_8, nc_8, nz_9, nc_9, nz_10, nc_10, nz_11, nc_11, nz_12, nc_12, if_true, if_false, eq_self, true_and, and_true, false_or, or_false, true_or, or_true, false_and, and_false, not_true, not_false_eq_true, ne_eq, ite_self, ite_not, ↓reduceIte, n_101, n_107, n_11]
      exact bad fun h => hy h.2.1
  · simp only [if_neg hx, z_t, z_f, bq_s, mS_c, mS_l, mS_r, mS_i, mS_j, mS_pi, mS_pj, lt_st, bq_s, bV_s, bI_s, bJ_s, bA_s, nz_0, nc_0, nz_1, nc_1, nz_2, nc_2, nz_3, nc_3, nz_4, nc_4, nz_5, nc_5, nz_6, nc_6, nz_7, nc_7, nz_8, nc_8, nz_9, nc_9, nz_10, nc_10, nz_11, nc_11, nz_12, nc_12, if_true, if_false, eq_self, true_and, and_true, false_or, or_false, true_or, or_true, false_and, and_false, not_true, not_false_eq_true, ne_eq, ite_self, ite_not, ↓reduceIte, n_101, n_107, n_11]
    exact bad fun h => hx h.1
theorem k96 (hR : Rep I 1 s) (hW : WF s) : ∃ I', FP I' I ∧ Rep I' 1 (tr_join s x y) ∧ am_cal (d + 5) 96 [.ref 0, .int x, .int y] (mS I J) = some (some (.int (v_join s x y)), mS I' J) := by
  have h12 := hW.nP.1
  rw [c_96 lc_0]
  simp only [lc_0, lr_0_0, k65 W1 hR, bq_s, mS_c, mS_l, mS_r, mS_i, mS_j, mS_pi, mS_pj, lt_st, bq_s, bV_s, bI_s, bJ_s, bA_s, nz_0, nc_0, nz_1, nc_1, nz_2, nc_2, nz_3, nc_3, nz_4, nc_4, nz_5, nc_5, nz_6, nc_6, nz_7, nc_7, nz_8, nc_8, nz_9, nc_9, nz_10, nc_10, nz_11, nc_11, nz_12, nc_12, if_true, if_false, eq_self, true_and, and_true, false_or, or_false, true_or, or_true, false_and, and_false, not_true, not_false_eq_true, ne_eq, ite_self, ite_not, ↓reduceIte, n_101, n_107, n_11]
  have bad : ¬ okJo s x y → ∃ I', FP I' I ∧ Rep I' 1 (tr_join s x y) ∧ some (some (Value.int (Int32.ofInt (-1))), mS I J) = some (some (.int (v_join s x y)), mS I' J) := fun hn => ⟨I, FP.rf, by unfold tr_join; rw [if_neg hn]; exact hR, by unfold v_join; rw [if_neg hn]⟩
  by_cases hx : isP s x
  · by_cases hy : isP s y
    · by_cases he : x = y
      · simp only [eq_true he, if_pos hx, if_pos hy, z_t, z_f, bq_s, mS_c, mS_l, mS_r, mS_i, mS_j, mS_pi, mS_pj, lt_st, bq_s, bV_s, bI_s, bJ_s, bA_s, nz_0, nc_0, nz_1, nc_1, nz_2, nc_2, nz_3, nc_3, nz_4, nc_4, nz_5, nc_5, nz_6, nc_6, nz_7, nc_7, nz_8, nc_8, nz_9, nc_9, nz_10, nc_10, nz_11, nc_11, nz_12, nc_12, if_true, if_false, eq_self, true_and, and_true, false_or, or_false, true_or, or_true, false_and, and_false, not_true, not_false_eq_true, ne_eq, ite_self, ite_not, ↓reduceIte, n_101, n_107, n_11]
        exact bad fun h => h.2.2 he
      · have hk : okJo s x y := ⟨hx, hy, he⟩
        unfold v_join tr_join
        rw [if_pos hx, if_pos hy, if_pos hk, if_pos hk, if_neg he]
        obtain ⟨p, hp, rfl⟩ := isP_n hW hx
        obtain ⟨q, hq, rfl⟩ := isP_n hW hy
        have cp : (nI p).toNatClampNeg = p := nI_clamp (show p < 2 ^ 31 by omega)
        have cq : (nI q).toNatClampNeg = q := nI_clamp (show q < 2 ^ 31 by omega)
        rw [cp, cq]
        have A : ∀ r, isAw s r → (if isAw s r then nI 1 else nI 0) = nI 1 := fun r h => if_pos h
        have B : ∀ r, ¬ isAw s r → (if isAw s r then nI 1 else nI 0) = nI 0 := fun r h => if_neg h
        by_cases h6 : isAw s p
        · by_cases h7 : isAw s q
          · rw [if_pos (show isAw s p ∧ isAw s q from ⟨h6, h7⟩), if_pos (show isAw s p ∧ isAw s q from ⟨h6, h7⟩)]
            obtain ⟨I', a, b, h⟩ := k75 (d := d) (J := J) W1 hR hW hp hq (fun h => he (by rw [h])) h6 h7
            refine ⟨I', a.fp, b, ?_⟩
            simp only [k68 W1 hR hW hp, k68 W1 hR hW hq, A p h6, A q h7, h, lc_0, lr_0_0, z_t, z_f, bq_s, mS_c, mS_l, mS_r, mS_i, mS_j, mS_pi, mS_pj, lt_st, bq_s, bV_s, bI_s, bJ_s, bA_s, nz_0, nc_0, nz_1, nc_1, nz_2, nc_2, nz_3, nc_3, nz_4, nc_4, nz_5, nc_5, nz_6, nc_6, nz_7, nc_7, nz_8, nc_8, nz_9, nc_9, nz_10, nc_10, nz_11, nc_11, nz_12, nc_12, if_true, if_false, eq_self, true_and, and_true, false_or, or_false, true_or, or_true, false_and, and_false, not_true, not_false_eq_true, ne_eq, ite_self, ite_not, ↓reduceIte, n_101, n_107, n_11]
          · rw [if_neg (show ¬ (isAw s p ∧ isAw s q) from fun h => h7 h.2), if_neg (show ¬ (isAw s p ∧ isAw s q) from fun h => h7 h.2)]
            exact ⟨I, FP.rf, hR, by simp only [k68 W1 hR hW hp, k68 W1 hR hW hq, A p h6, B q h7, lc_0, lr_0_0, z_t, z_f, bq_s, mS_c, mS_l, mS_r, mS_i, mS_j, mS_pi, mS_pj, lt_st, bq_s, bV_s, bI_s, bJ_s, bA_s, nz_0, nc_0, nz_1, nc_1, nz_2, nc_2, nz_3, nc_3, nz_4, nc_4, nz_5, nc_5, nz_6, nc_6, nz_7, nc_7, nz_8, nc_8, nz_9, nc_9, nz_10, nc_10, nz_11, nc_11, nz_12, nc_12, if_true, if_false, eq_self, true_and, and_true, false_or, or_false, true_or, or_true, false_and, and_false, not_true, not_false_eq_true, ne_eq, ite_self, ite_not, ↓reduceIte, n_101, n_107, n_11]⟩
        · rw [if_neg (show ¬ (isAw s p ∧ isAw s q) from fun h => h6 h.1), if_neg (show ¬ (isAw s p ∧ isAw s q) from fun h => h6 h.1)]
          exact ⟨I, FP.rf, hR, by simp only [k68 W1 hR hW hp, B p h6, lc_0, lr_0_0, z_t, z_f, bq_s, mS_c, mS_l, mS_r, mS_i, mS_j, mS_pi, mS_pj, lt_st, bq_s, bV_s, bI_s, bJ_s, bA_s, nz_0, nc_0, nz_1, nc_1, nz_2, nc_2, nz_3, nc_3, nz_4, nc_4, nz_5, nc_5, nz_6, nc_6, nz_7, nc_7, nz_8, nc_8, nz_9, nc_9, nz_10, nc_10, nz_11, nc_11, nz_12, nc_12, if_true, if_false, eq_self, true_and, and_true, false_or, or_false, true_or, or_true, false_and, and_false, not_true, not_false_eq_true, ne_eq, ite_self, ite_not, ↓reduceIte, n_101, n_107, n_11]⟩
    · simp only [if_pos hx, if_neg hy, z_t, z_f, bq_s, mS_c, mS_l, mS_r, mS_i, mS_j, mS_pi, mS_pj, lt_st, bq_s, bV_s, bI_s, bJ_s, bA_s, nz_0, nc_0, nz_1, nc_1, nz_2, nc_2, nz_3, nc_3, nz_4, nc_4, nz_5, nc_5, nz_6, nc_6, nz_7, nc_7, nz_8, nc_8, nz_9, nc_9, nz_10, nc_10, nz_11, nc_11, nz_12, nc_12, if_true, if_false, eq_self, true_and, and_true, false_or, or_false, true_or, or_true, false_and, and_false, not_true, not_false_eq_true, ne_eq, ite_self, ite_not, ↓reduceIte, n_101, n_107, n_11]
      exact bad fun h => hy h.2.1
  · simp only [if_neg hx, z_t, z_f, bq_s, mS_c, mS_l, mS_r, mS_i, mS_j, mS_pi, mS_pj, lt_st, bq_s, bV_s, bI_s, bJ_s, bA_s, nz_0, nc_0, nz_1, nc_1, nz_2, nc_2, nz_3, nc_3, nz_4, nc_4, nz_5, nc_5, nz_6, nc_6, nz_7, nc_7, nz_8, nc_8, nz_9, nc_9, nz_10, nc_10, nz_11, nc_11, nz_12, nc_12, if_true, if_false, eq_self, true_and, and_true, false_or, or_false, true_or, or_true, false_and, and_false, not_true, not_false_eq_true, ne_eq, ite_self, ite_not, ↓reduceIte, n_101, n_107, n_11]
    exact bad fun h => hx h.1
theorem k111 (hR : Rep I 1 s) (hW : WF s) : ∃ I', FP I' I ∧ Rep I' 1 (tr_wedq s x y) ∧ am_cal (d + 8) 111 [.ref 0, .int x, .int y] (mS I J) = some (some (.int (v_wedq s x y)), mS I' J) := by
  have h12 := hW.nP.1
  rw [c_111 lc_0]
  simp only [lc_0, lr_0_0, lr_0_5, k65 W1 hR, bq_s, mS_c, mS_l, mS_r, mS_i, mS_j, mS_pi, mS_pj, lt_st, bq_s, bV_s, bI_s, bJ_s, bA_s, nz_0, nc_0, nz_1, nc_1, nz_2, nc_2, nz_3, nc_3, nz_4, nc_4, nz_5, nc_5, nz_6, nc_6, nz_7, nc_7, nz_8, nc_8, nz_9, nc_9, nz_10, nc_10, nz_11, nc_11, nz_12, nc_12, if_true, if_false, eq_self, true_and, and_true, false_or, or_false, true_or, or_true, false_and, and_false, not_true, not_false_eq_true, ne_eq, ite_self, ite_not, ↓reduceIte, n_101, n_107, n_11]
  have bad : ¬ okJo s x y → ∃ I', FP I' I ∧ Rep I' 1 (tr_wedq s x y) ∧ some (some (Value.int (Int32.ofInt (-1))), mS I J) = some (some (.int (v_wedq s x y)), mS I' J) := fun hn => ⟨I, FP.rf, by unfold tr_wedq; rw [if_neg hn]; exact hR, by unfold v_wedq; rw [if_neg hn]⟩
  by_cases hx : isP s x
  · by_cases hy : isP s y
    · by_cases he : x = y
      · simp only [eq_true he, if_pos hx, if_pos hy, z_t, z_f, bq_s, mS_c, mS_l, mS_r, mS_i, mS_j, mS_pi, mS_pj, lt_st, bq_s, bV_s, bI_s, bJ_s, bA_s, nz_0, nc_0, nz_1, nc_1, nz_2, nc_2, nz_3, nc_3, nz_4, nc_4, nz_5, nc_5, nz_6, nc_6, nz_7, nc_7, nz_8, nc_8, nz_9, nc_9, nz_10, nc_10, nz_11, nc_11, nz_12, nc_12, if_true, if_false, eq_self, true_and, and_true, false_or, or_false, true_or, or_true, false_and, and_false, not_true, not_false_eq_true, ne_eq, ite_self, ite_not, ↓reduceIte, n_101, n_107, n_11]
        exact bad fun h => h.2.2 he
      · have hk : okJo s x y := ⟨hx, hy, he⟩
        unfold v_wedq tr_wedq
        rw [if_pos hx, if_pos hy, if_pos hk, if_pos hk, if_neg he]
        obtain ⟨p, hp, rfl⟩ := isP_n hW hx
        obtain ⟨q, hq, rfl⟩ := isP_n hW hy
        have cp : (nI p).toNatClampNeg = p := nI_clamp (show p < 2 ^ 31 by omega)
        have cq : (nI q).toNatClampNeg = q := nI_clamp (show q < 2 ^ 31 by omega)
        rw [cp, cq]
        have A : ∀ r, isAw s r → (if isAw s r then nI 1 else nI 0) = nI 1 := fun r h => if_pos h
        have B : ∀ r, ¬ isAw s r → (if isAw s r then nI 1 else nI 0) = nI 0 := fun r h => if_neg h
        by_cases h6 : isAw s p
        · by_cases h7 : isAw s q
          · obtain ⟨I1, a1, h1⟩ := k58 (d := d) (J := J) hR hW hp
            have hR1 := FC.rep hR hW a1
            cases hb : bit (acr s p) q
            · rw [if_pos (show (isAw s p ∧ isAw s q) ∧ false = false from ⟨⟨h6, h7⟩, rfl⟩), if_pos (show (isAw s p ∧ isAw s q) ∧ false = false from ⟨⟨h6, h7⟩, rfl⟩)]
              obtain ⟨I', a, b, h⟩ := k83 (x := nI p) (y := nI q) (d := d + 5) (J := J) W1 hR1 hW
              refine ⟨I', a.fp.tr a1.fp, b, ?_⟩
              simp only [k68 W1 hR hW hp, k68 W1 hR hW hq, A p h6, A q h7, lr_0_5, h1, h, bit_at0 (show q < 32 by omega), hb, lc_0, lr_0_0, z_t, z_f, bq_s, mS_c, mS_l, mS_r, mS_i, mS_j, mS_pi, mS_pj, lt_st, bq_s, bV_s, bI_s, bJ_s, bA_s, nz_0, nc_0, nz_1, nc_1, nz_2, nc_2, nz_3, nc_3, nz_4, nc_4, nz_5, nc_5, nz_6, nc_6, nz_7, nc_7, nz_8, nc_8, nz_9, nc_9, nz_10, nc_10, nz_11, nc_11, nz_12, nc_12, if_true, if_false, eq_self, true_and, and_true, false_or, or_false, true_or, or_true, false_and, and_false, not_true, not_false_eq_true, ne_eq, ite_self, ite_not, ↓reduceIte, n_101, n_107, n_11]
            · rw [if_neg (show ¬ ((isAw s p ∧ isAw s q) ∧ true = false) from fun h => Bool.noConfusion h.2), if_neg (show ¬ ((isAw s p ∧ isAw s q) ∧ true = false) from fun h => Bool.noConfusion h.2)]
              refine ⟨I1, a1.fp, hR1, ?_⟩
              simp only [k68 W1 hR hW hp, k68 W1 hR hW hq, A p h6, A q h7, lc_0, lr_0_0, lr_0_5, h1, bit_at0 (show q < 32 by omega), hb, Bool.true_eq_false, z_t, z_f, bq_s, mS_c, mS_l, mS_r, mS_i, mS_j, mS_pi, mS_pj, lt_st, bq_s, bV_s, bI_s, bJ_s, bA_s, nz_0, nc_0, nz_1, nc_1, nz_2, nc_2, nz_3, nc_3, nz_4, nc_4, nz_5, nc_5, nz_6, nc_6, nz_7, nc_7, nz_8, nc_8, nz_9, nc_9, nz_10, nc_10, nz_11, nc_11, nz_12, nc_12, if_true, if_false, eq_self, true_and, and_true, false_or, or_false, true_or, or_true, false_and, and_false, not_true, not_false_eq_true, ne_eq, ite_self, ite_not, ↓reduceIte, n_101, n_107, n_11]
          · rw [if_neg (show ¬ ((isAw s p ∧ isAw s q) ∧ bit (acr s p) q = false) from fun h => h7 h.1.2), if_neg (show ¬ ((isAw s p ∧ isAw s q) ∧ bit (acr s p) q = false) from fun h => h7 h.1.2)]
            exact ⟨I, FP.rf, hR, by simp only [k68 W1 hR hW hp, k68 W1 hR hW hq, A p h6, B q h7, lc_0, lr_0_0, z_t, z_f, bq_s, mS_c, mS_l, mS_r, mS_i, mS_j, mS_pi, mS_pj, lt_st, bq_s, bV_s, bI_s, bJ_s, bA_s, nz_0, nc_0, nz_1, nc_1, nz_2, nc_2, nz_3, nc_3, nz_4, nc_4, nz_5, nc_5, nz_6, nc_6, nz_7, nc_7, nz_8, nc_8, nz_9, nc_9, nz_10, nc_10, nz_11, nc_11, nz_12, nc_12, if_true, if_false, eq_self, true_and, and_true, false_or, or_false, true_or, or_true, false_and, and_false, not_true, not_false_eq_true, ne_eq, ite_self, ite_not, ↓reduceIte, n_101, n_107, n_11]⟩
        · rw [if_neg (show ¬ ((isAw s p ∧ isAw s q) ∧ bit (acr s p) q = false) from fun h => h6 h.1.1), if_neg (show ¬ ((isAw s p ∧ isAw s q) ∧ bit (acr s p) q = false) from fun h => h6 h.1.1)]
          exact ⟨I, FP.rf, hR, by simp only [k68 W1 hR hW hp, B p h6, lc_0, lr_0_0, z_t, z_f, bq_s, mS_c, mS_l, mS_r, mS_i, mS_j, mS_pi, mS_pj, lt_st, bq_s, bV_s, bI_s, bJ_s, bA_s, nz_0, nc_0, nz_1, nc_1, nz_2, nc_2, nz_3, nc_3, nz_4, nc_4, nz_5, nc_5, nz_6, nc_6, nz_7, nc_7, nz_8, nc_8, nz_9, nc_9, nz_10, nc_10, nz_11, nc_11, nz_12, nc_12, if_true, if_false, eq_self, true_and, and_true, false_or, or_false, true_or, or_true, false_and, and_false, not_true, not_false_eq_true, ne_eq, ite_self, ite_not, ↓reduceIte, n_101, n_107, n_11]⟩
    · simp only [if_pos hx, if_neg hy, z_t, z_f, bq_s, mS_c, mS_l, mS_r, mS_i, mS_j, mS_pi, mS_pj, lt_st, bq_s, bV_s, bI_s, bJ_s, bA_s, nz_0, nc_0, nz_1, nc_1, nz_2, nc_2, nz_3, nc_3, nz_4, nc_4, nz_5, nc_5, nz_6, nc_6, nz_7, nc_7, nz_8, nc_8, nz_9, nc_9, nz_10, nc_10, nz_11, nc_11, nz_12, nc_12, if_true, if_false, eq_self, true_and, and_true, false_or, or_false, true_or, or_true, false_and, and_false, not_true, not_false_eq_true, ne_eq, ite_self, ite_not, ↓reduceIte, n_101, n_107, n_11]
      exact bad fun h => hy h.2.1
  · simp only [if_neg hx, z_t, z_f, bq_s, mS_c, mS_l, mS_r, mS_i, mS_j, mS_pi, mS_pj, lt_st, bq_s, bV_s, bI_s, bJ_s, bA_s, nz_0, nc_0, nz_1, nc_1, nz_2, nc_2, nz_3, nc_3, nz_4, nc_4, nz_5, nc_5, nz_6, nc_6, nz_7, nc_7, nz_8, nc_8, nz_9, nc_9, nz_10, nc_10, nz_11, nc_11, nz_12, nc_12, if_true, if_false, eq_self, true_and, and_true, false_or, or_false, true_or, or_true, false_and, and_false, not_true, not_false_eq_true, ne_eq, ite_self, ite_not, ↓reduceIte, n_101, n_107, n_11]
    exact bad fun h => hx h.1
theorem k149 : am_cal (d + 1) 149 [.int x] (mS I J) = some (some (.int (if x = nI 2 ∨ x = nI 3 ∨ x = nI 5 then nI 1 else nI 0)), mS I J) := by
  rw [c_149]
  by_cases h2 : x = nI 2
  · rw [if_pos h2, if_pos (Or.inl h2)]
  · rw [if_neg h2]
    by_cases h3 : x = nI 3
    · rw [if_pos h3, if_pos (Or.inr (Or.inl h3))]
    · rw [if_neg h3]
      by_cases h5 : x = nI 5
      · rw [if_pos h5, if_pos (Or.inr (Or.inr h5))]
      · rw [if_neg h5, if_neg (fun h => h.elim h2 fun h => h.elim h3 h5)]
theorem k94 (hR : Rep I 1 s) (hW : WF s) (hv : v = 0 ∨ v = 1) : ∃ I', FP I' I ∧ Rep I' 1 (tr_copied s x y z u v) ∧ am_cal (d + 7) 94 [.ref 0, .int x, .int y, .int z, .int u, .int v] (mS I J) = some (some (.int (v_copied s x y z u)), mS I' J) := by
  have h12 := hW.nP.1
  have bad : ¬ okCp s x y z u → ∃ I', FP I' I ∧ Rep I' 1 (tr_copied s x y z u v) ∧ some (some (Value.int (Int32.ofInt (-1))), mS I J) = some (some (.int (v_copied s x y z u)), mS I' J) := fun hn => ⟨I, FP.rf, by unfold tr_copied; rw [if_neg hn]; exact hR, by unfold v_copied; rw [if_neg hn]⟩
  rw [c_94 lc_0]
  simp only [lc_0, lr_0_0, k65 W1 hR, bq_s, mS_c, mS_l, mS_r, mS_i, mS_j, mS_pi, mS_pj, lt_st, bq_s, bV_s, bI_s, bJ_s, bA_s, nz_0, nc_0, nz_1, nc_1, nz_2, nc_2, nz_3, nc_3, nz_4, nc_4, nz_5, nc_5, nz_6, nc_6, nz_7, nc_7, nz_8, nc_8, nz_9, nc_9, nz_10, nc_10, nz_11, nc_11, nz_12, nc_12, if_true, if_false, eq_self, true_and, and_true, false_or, or_false, true_or, or_true, false_and, and_false, not_true, not_false_eq_true, ne_eq, ite_self, ite_not, ↓reduceIte, n_101, n_107, n_11]
  by_cases hx : isP s x
  · rw [if_pos hx]
    simp only [z_t, z_f, k149, bq_s, mS_c, mS_l, mS_r, mS_i, mS_j, mS_pi, mS_pj, lt_st, bq_s, bV_s, bI_s, bJ_s, bA_s, nz_0, nc_0, nz_1, nc_1, nz_2, nc_2, nz_3, nc_3, nz_4, nc_4, nz_5, nc_5, nz_6, nc_6, nz_7, nc_7, nz_8, nc_8, nz_9, nc_9, nz_10, nc_10, nz_11, nc_11, nz_12, nc_12, if_true, if_false, eq_self, true_and, and_true, false_or, or_false, true_or, or_true, false_and, and_false, not_true, not_false_eq_true, ne_eq, ite_self, ite_not, ↓reduceIte, n_101, n_107, n_11]
    by_cases hy : y = nI 2 ∨ y = nI 3 ∨ y = nI 5
    · rw [if_pos hy]
      -- behind kind and part
      have tail : (y = nI 3 → ¬ z < nI 1 ∧ ¬ nI 3 < z) → ∃ I', FP I' I ∧ Rep I' 1 (tr_copied s x y z u v) ∧ am_X (am_cal (d + 6)) 94 21 [.ref 0, .int x, .int y, .int z, .int u, .int v] [] (mS I J) = some (some (.int (v_copied s x y z u)), mS I' J) := by
        intro hz
        rw [e_94_21]
        have day : I 1 8 = s 0 := hR.day
        by_cases hu : u < 0
        · rw [if_pos hu]
          exact bad fun h => h.2.2.2.1 hu
        · rw [if_neg hu]
          simp only [lc_0, lr_0_0, w_C W1, day, bq_s, mS_c, mS_l, mS_r, mS_i, mS_j, mS_pi, mS_pj, lt_st, bq_s, bV_s, bI_s, bJ_s, bA_s, nz_0, nc_0, nz_1, nc_1, nz_2, nc_2, nz_3, nc_3, nz_4, nc_4, nz_5, nc_5, nz_6, nc_6, nz_7, nc_7, nz_8, nc_8, nz_9, nc_9, nz_10, nc_10, nz_11, nc_11, nz_12, nc_12, if_true, if_false, eq_self, true_and, and_true, false_or, or_false, true_or, or_true, false_and, and_false, not_true, not_false_eq_true, ne_eq, ite_self, ite_not, ↓reduceIte, n_101, n_107, n_11]
          by_cases hu2 : s 0 < u
          · rw [if_pos hu2]
            exact bad fun h => h.2.2.2.2 hu2
          · rw [if_neg hu2]
            have hk : okCp s x y z u := ⟨hx, hy, hz, hu, hu2⟩
            obtain ⟨p, hp, rfl⟩ := isP_n hW hx
            unfold v_copied tr_copied
            rw [if_pos hk, if_pos hk]
            simp only [k68 W1 hR hW hp, nI_clamp (show p < 2 ^ 31 by omega), z_t, z_f, bq_s, mS_c, mS_l, mS_r, mS_i, mS_j, mS_pi, mS_pj, lt_st, bq_s, bV_s, bI_s, bJ_s, bA_s, nz_0, nc_0, nz_1, nc_1, nz_2, nc_2, nz_3, nc_3, nz_4, nc_4, nz_5, nc_5, nz_6, nc_6, nz_7, nc_7, nz_8, nc_8, nz_9, nc_9, nz_10, nc_10, nz_11, nc_11, nz_12, nc_12, if_true, if_false, eq_self, true_and, and_true, false_or, or_false, true_or, or_true, false_and, and_false, not_true, not_false_eq_true, ne_eq, ite_self, ite_not, ↓reduceIte, n_101, n_107, n_11]
            by_cases h6 : isAw s p
            · rw [if_pos h6, if_pos h6, if_pos h6]
              obtain ⟨I', a, b, h⟩ := k74 (d := d) (J := J) W1 hR hW hp hk h6 hv
              refine ⟨I', a.fp, b, ?_⟩
              simp only [h, lc_0, lr_0_0, z_t, z_f, bq_s, mS_c, mS_l, mS_r, mS_i, mS_j, mS_pi, mS_pj, lt_st, bq_s, bV_s, bI_s, bJ_s, bA_s, nz_0, nc_0, nz_1, nc_1, nz_2, nc_2, nz_3, nc_3, nz_4, nc_4, nz_5, nc_5, nz_6, nc_6, nz_7, nc_7, nz_8, nc_8, nz_9, nc_9, nz_10, nc_10, nz_11, nc_11, nz_12, nc_12, if_true, if_false, eq_self, true_and, and_true, false_or, or_false, true_or, or_true, false_and, and_false, not_true, not_false_eq_true, ne_eq, ite_self, ite_not, ↓reduceIte, n_101, n_107, n_11]
            · rw [if_neg h6, if_neg h6, if_neg h6]
              exact ⟨I, FP.rf, hR, by simp only [z_t, z_f, bq_s, mS_c, mS_l, mS_r, mS_i, mS_j, mS_pi, mS_pj, lt_st, bq_s, bV_s, bI_s, bJ_s, bA_s, nz_0, nc_0, nz_1, nc_1, nz_2, nc_2, nz_3, nc_3, nz_4, nc_4, nz_5, nc_5, nz_6, nc_6, nz_7, nc_7, nz_8, nc_8, nz_9, nc_9, nz_10, nc_10, nz_11, nc_11, nz_12, nc_12, if_true, if_false, eq_self, true_and, and_true, false_or, or_false, true_or, or_true, false_and, and_false, not_true, not_false_eq_true, ne_eq, ite_self, ite_not, ↓reduceIte, n_101, n_107, n_11]⟩
      simp only [z_t, z_f, bq_s, mS_c, mS_l, mS_r, mS_i, mS_j, mS_pi, mS_pj, lt_st, bq_s, bV_s, bI_s, bJ_s, bA_s, nz_0, nc_0, nz_1, nc_1, nz_2, nc_2, nz_3, nc_3, nz_4, nc_4, nz_5, nc_5, nz_6, nc_6, nz_7, nc_7, nz_8, nc_8, nz_9, nc_9, nz_10, nc_10, nz_11, nc_11, nz_12, nc_12, if_true, if_false, eq_self, true_and, and_true, false_or, or_false, true_or, or_true, false_and, and_false, not_true, not_false_eq_true, ne_eq, ite_self, ite_not, ↓reduceIte, n_101, n_107, n_11]
      by_cases h3 : y = nI 3
      · rw [if_pos h3]
        by_cases h1 : z < nI 1
        · rw [if_pos h1]
          exact bad fun h => (h.2.2.1 h3).1 h1
        · rw [if_neg h1]
          by_cases h2 : nI 3 < z
          · rw [if_pos h2]
            exact bad fun h => (h.2.2.1 h3).2 h2
          · rw [if_neg h2]
            exact tail fun _ => ⟨h1, h2⟩
      · rw [if_neg h3]
        exact tail fun h => absurd h h3
    · simp only [if_neg hy, z_t, z_f, bq_s, mS_c, mS_l, mS_r, mS_i, mS_j, mS_pi, mS_pj, lt_st, bq_s, bV_s, bI_s, bJ_s, bA_s, nz_0, nc_0, nz_1, nc_1, nz_2, nc_2, nz_3, nc_3, nz_4, nc_4, nz_5, nc_5, nz_6, nc_6, nz_7, nc_7, nz_8, nc_8, nz_9, nc_9, nz_10, nc_10, nz_11, nc_11, nz_12, nc_12, if_true, if_false, eq_self, true_and, and_true, false_or, or_false, true_or, or_true, false_and, and_false, not_true, not_false_eq_true, ne_eq, ite_self, ite_not, ↓reduceIte, n_101, n_107, n_11]
      exact bad fun h => hy h.2.1
  · simp only [if_neg hx, z_t, z_f, bq_s, mS_c, mS_l, mS_r, mS_i, mS_j, mS_pi, mS_pj, lt_st, bq_s, bV_s, bI_s, bJ_s, bA_s, nz_0, nc_0, nz_1, nc_1, nz_2, nc_2, nz_3, nc_3, nz_4, nc_4, nz_5, nc_5, nz_6, nc_6, nz_7, nc_7, nz_8, nc_8, nz_9, nc_9, nz_10, nc_10, nz_11, nc_11, nz_12, nc_12, if_true, if_false, eq_self, true_and, and_true, false_or, or_false, true_or, or_true, false_and, and_false, not_true, not_false_eq_true, ne_eq, ite_self, ite_not, ↓reduceIte, n_101, n_107, n_11]
    exact bad fun h => hx h.1
end G6s
