/-! ===== claimOf ===== -/
section H5s
variable {I I' : mI} {J : mJ} {s s' t : Rw} {w p q e c d k n g a b l m : Nat} {x y z u v sort key : Int32}
def v_clof (s : Rw) (x y : Int32) : Int32 := if isCl s x then (if y = nI 0 ∨ y = nI 1 ∨ y = nI 2 ∨ y = nI 3 then cF s x.toNatClampNeg y.toNatClampNeg else Int32.ofInt (-1)) else Int32.ofInt (-1)
theorem k105 (hR : Rep I 1 s) (hW : WF s) : am_cal (d + 2) 105 [.ref 0, .int x, .int y] (mS I J) = some (some (.int (v_clof s x y)), mS I J) := by
  have h12 := hW.nC.1
  rw [c_105 lc_0]
  simp only [lc_0, lr_0_0, k66 W1 hR, bq_s, mS_c, mS_l, mS_r, mS_i, mS_j, mS_pi, mS_pj, lt_st, bq_s, bV_s, bI_s, bJ_s, bA_s, nz_0, nc_0, nz_1, nc_1, nz_2, nc_2, nz_3, nc_3, nz_4, nc_4, nz_5, nc_5, nz_6, nc_6, nz_7, nc_7, nz_8, nc_8, nz_9, nc_9, nz_10, nc_10, nz_11, nc_11, nz_12, nc_12, if_true, if_false, eq_self, true_and, and_true, false_or, or_false, true_or, or_true, false_and, and_false, not_true, not_false_eq_true, ne_eq, ite_self, ite_not, ↓reduceIte, n_101, n_107, n_11]
  unfold v_clof
  by_cases hx : isCl s x
  · rw [if_pos hx, if_pos hx]
    obtain ⟨c, hc, rfl⟩ := isCl_n hW hx
    have hc12 : c < 12 := by omega
    have i0c : (nI (c)).toNatClampNeg = c := nI_clamp (by omega)
    have i0z : (nI (c) < 0) = False := n_ge0 (by omega)
    have i0l : (12 ≤ c) = False := n_lef (by omega)
    have f0 := hR.cF hc (show 0 < 5 by decide)
    have f1 := hR.cF hc (show 1 < 5 by decide)
    have f2 := hR.cF hc (show 2 < 5 by decide)
    have f3 := hR.cF hc (show 3 < 5 by decide)
    simp only [w_C W1, w_R2 W1, w_C3 W1, w_L3 W1, w_rc W1 hc12, w_cc W1 hc12, i0c, i0z, i0l, z_t, z_f, show (103 ≤ 104 ∧ 104 < 200) = True from eq_true (by decide), f0, f1, f2, f3, bq_s, mS_c, mS_l, mS_r, mS_i, mS_j, mS_pi, mS_pj, lt_st, bq_s, bV_s, bI_s, bJ_s, bA_s, nz_0, nc_0, nz_1, nc_1, nz_2, nc_2, nz_3, nc_3, nz_4, nc_4, nz_5, nc_5, nz_6, nc_6, nz_7, nc_7, nz_8, nc_8, nz_9, nc_9, nz_10, nc_10, nz_11, nc_11, nz_12, nc_12, if_true, if_false, eq_self, true_and, and_true, false_or, or_false, true_or, or_true, false_and, and_false, not_true, not_false_eq_true, ne_eq, ite_self, ite_not, ↓reduceIte, n_101, n_107, n_11]
    by_cases h0 : y = nI 0
    · subst h0
      rw [if_pos rfl, if_pos (Or.inl rfl)]; rfl
    · rw [if_neg h0]
      by_cases h1 : y = nI 1
      · subst h1
        rw [if_pos rfl, if_pos (Or.inr (Or.inl rfl))]; rfl
      · rw [if_neg h1]
        by_cases h2 : y = nI 2
        · subst h2
          rw [if_pos rfl, if_pos (Or.inr (Or.inr (Or.inl rfl)))]; rfl
        · rw [if_neg h2]
          by_cases h3 : y = nI 3
          · subst h3
            rw [if_pos rfl, if_pos (Or.inr (Or.inr (Or.inr rfl)))]; rfl
          · rw [if_neg h3, if_neg (fun h => h.elim h0 fun h => h.elim h1 fun h => h.elim h2 h3)]
  · rw [if_neg hx, if_neg hx, if_pos nI_0]
theorem in03 : (¬ y < nI 0 ∧ ¬ nI 3 < y) ↔ (y = nI 0 ∨ y = nI 1 ∨ y = nI 2 ∨ y = nI 3) := by
  refine ⟨fun ⟨a, b⟩ => ?_, fun h => ?_⟩
  · obtain ⟨j, hj, rfl⟩ := nI_of (by rw [n_i0]; exact a)
    rw [n_lt (by decide) hj] at b
    rcases (show j = 0 ∨ j = 1 ∨ j = 2 ∨ j = 3 by omega) with rfl | rfl | rfl | rfl
    · exact Or.inl rfl
    · exact Or.inr (Or.inl rfl)
    · exact Or.inr (Or.inr (Or.inl rfl))
    · exact Or.inr (Or.inr (Or.inr rfl))
  · rcases h with rfl | rfl | rfl | rfl <;> decide
theorem m204 (hW : WF (I 230)) : am_cal (d + 3) 204 [.ref 229, .int x, .int y] (mS I J) = some (some (.int (v_clof (I 230) x y)), mS I J) := by
  have h12 := hW.nC.1
  rw [c_204 lc_229, m203 hW, bI_s]
  unfold v_clof
  by_cases hx : isCl (I 230) x
  · rw [if_pos hx, if_pos hx, if_neg (by decide), m151 (by decide) (by decide), bI_s]
    obtain ⟨c, hc, rfl⟩ := isCl_n hW hx
    by_cases hy : y = nI 0 ∨ y = nI 1 ∨ y = nI 2 ∨ y = nI 3
    · rw [if_pos (show ¬ y < nI 0 ∧ ¬ nI 3 < y from in03.mpr hy), if_pos hy, if_neg (by decide)]
      obtain ⟨j, hj, rfl⟩ : ∃ j, j < 4 ∧ y = nI j := by
        rcases hy with rfl | rfl | rfl | rfl
        · exact ⟨0, by decide, rfl⟩
        · exact ⟨1, by decide, rfl⟩
        · exact ⟨2, by decide, rfl⟩
        · exact ⟨3, by decide, rfl⟩
      have b0 : nI 184 + nI 5 * nI c + nI j = nI (184 + 5 * c + j) := by rw [pk_mul, nI_add, nI_add]
      have i0c : (nI (184 + 5 * c + j)).toNatClampNeg = 184 + 5 * c + j := nI_clamp (by omega)
      have i0z : (nI (184 + 5 * c + j) < 0) = False := n_ge0 (by omega)
      have i0l : (546 ≤ 184 + 5 * c + j) = False := n_lef (by omega)
      have cc : (nI c).toNatClampNeg = c := nI_clamp (by omega)
      have cj : (nI j).toNatClampNeg = j := nI_clamp (by omega)
      simp only [b0, i0c, i0z, i0l, cc, cj, cF, lc_229, lr_229_0, lc_230, ll_230, bq_s, mS_c, mS_l, mS_r, mS_i, mS_j, mS_pi, mS_pj, lt_st, bq_s, bV_s, bI_s, bJ_s, bA_s, nz_0, nc_0, nz_1, nc_1, nz_2, nc_2, nz_3, nc_3, nz_4, nc_4, nz_5, nc_5, nz_6, nc_6, nz_7, nc_7, nz_8, nc_8, nz_9, nc_9, nz_10, nc_10, nz_11, nc_11, nz_12, nc_12, if_true, if_false, eq_self, true_and, and_true, false_or, or_false, true_or, or_true, false_and, and_false, not_true, not_false_eq_true, ne_eq, ite_self, ite_not, ↓reduceIte]
    · rw [if_neg (show ¬ (¬ y < nI 0 ∧ ¬ nI 3 < y) from fun h => hy (in03.mp h)), if_neg hy, if_pos nI_0]
  · rw [if_neg hx, if_neg hx, if_pos nI_0]
end H5s
