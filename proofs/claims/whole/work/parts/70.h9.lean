/-! ===== trace, many ===== -/
def v_trace (m : Nat) (T : Nat → Int32) (x : Int32) : Int32 := if ¬ x < 0 ∧ x < nI m then T x.toNatClampNeg else Int32.ofInt (-3)
def v_many (s : Rw) (a b c : Int32) (x : Int32) : Int32 := if x = nI 0 then s 1 else if x = nI 1 then nI (awk s) else if x = nI 2 then s 2 else if x = nI 3 then s 3 else if x = nI 4 then s 4 else if x = nI 5 then s 5 else if x = nI 6 then s 6 else if x = nI 7 then a else if x = nI 8 then b else if x = nI 9 then c else if x = nI 10 then s 0 else Int32.ofInt (-1)
section H9s
variable {I I' : mI} {J : mJ} {s s' t : Rw} {w p q e d k n g l m : Nat} {a b c x y z u v : Int32} {T : Nat → Int32}
theorem k135 (hm : m ≤ 30) (h1 : I 205 1 = nI m) (hT : ∀ j, j < m → I 206 j = T j) : am_cal (d + 1) 135 [.ref 0, .int x] (mS I J) = some (some (.int (v_trace m T x)), mS I J) := by
  rw [c_135 lc_0]
  unfold v_trace
  by_cases h0 : x < 0
  · rw [if_pos h0, if_neg (fun h => h.1 h0)]
  · simp only [if_neg h0, lc_0, lr_0_9, lc_205, h1, bq_s, mS_c, mS_l, mS_r, mS_i, mS_j, mS_pi, mS_pj, lt_st, bq_s, bV_s, bI_s, bJ_s, bA_s, nz_0, nc_0, nz_1, nc_1, nz_2, nc_2, nz_3, nc_3, nz_4, nc_4, nz_5, nc_5, nz_6, nc_6, nz_7, nc_7, nz_8, nc_8, nz_9, nc_9, nz_10, nc_10, nz_11, nc_11, nz_12, nc_12, if_true, if_false, eq_self, true_and, and_true, false_or, or_false, true_or, or_true, false_and, and_false, not_true, not_false_eq_true, ne_eq, ite_self, ite_not, ↓reduceIte, n_101, n_107, n_11]
    by_cases h2 : x < nI m
    · rw [if_pos h2, if_pos (show ¬ x < 0 ∧ x < nI m from ⟨h0, h2⟩)]
      obtain ⟨r, hr, rfl⟩ := n_below (show m < 2 ^ 31 by omega) h0 h2
      have i0c : (nI (r)).toNatClampNeg = r := nI_clamp (by omega)
      have i0z : (nI (r) < 0) = False := n_ge0 (by omega)
      have i0l : (30 ≤ r) = False := n_lef (by omega)
      simp only [lc_0, lr_0_9, lc_205, lr_205_0, lc_206, ll_206, i0c, i0z, i0l, hT r hr, bq_s, mS_c, mS_l, mS_r, mS_i, mS_j, mS_pi, mS_pj, lt_st, bq_s, bV_s, bI_s, bJ_s, bA_s, nz_0, nc_0, nz_1, nc_1, nz_2, nc_2, nz_3, nc_3, nz_4, nc_4, nz_5, nc_5, nz_6, nc_6, nz_7, nc_7, nz_8, nc_8, nz_9, nc_9, nz_10, nc_10, nz_11, nc_11, nz_12, nc_12, if_true, if_false, eq_self, true_and, and_true, false_or, or_false, true_or, or_true, false_and, and_false, not_true, not_false_eq_true, ne_eq, ite_self, ite_not, ↓reduceIte, n_101, n_107, n_11]
    · rw [if_neg h2, if_neg (fun h => h2 h.2)]
theorem m267 (hm : m ≤ 30) (h1 : I 229 35 = nI m) (hT : ∀ j, j < m → I 248 j = T j) : am_cal (d + 2) 267 [.ref 229, .int x] (mS I J) = some (some (.int (v_trace m T x)), mS I J) := by
  rw [c_267 lc_229, if_pos lc_229, h1, m151h, bI_s]
  unfold v_trace
  by_cases h2 : ¬ x < 0 ∧ ¬ nI m - nI 1 < x
  · have h2' : ¬ x < 0 ∧ x < nI m := ⟨h2.1, (pr_lt hm h2.1).mp h2.2⟩
    rw [if_pos h2, if_neg (by decide), if_pos h2']
    obtain ⟨r, hr, rfl⟩ := n_below (show m < 2 ^ 31 by omega) h2'.1 h2'.2
    have i0c : (nI (r)).toNatClampNeg = r := nI_clamp (by omega)
    have i0z : (nI (r) < 0) = False := n_ge0 (by omega)
    have i0l : (30 ≤ r) = False := n_lef (by omega)
    simp only [lc_229, lr_229_34, lc_248, ll_248, i0c, i0z, i0l, hT r hr, lc_229, lr_229_0, lc_230, ll_230, bq_s, mS_c, mS_l, mS_r, mS_i, mS_j, mS_pi, mS_pj, lt_st, bq_s, bV_s, bI_s, bJ_s, bA_s, nz_0, nc_0, nz_1, nc_1, nz_2, nc_2, nz_3, nc_3, nz_4, nc_4, nz_5, nc_5, nz_6, nc_6, nz_7, nc_7, nz_8, nc_8, nz_9, nc_9, nz_10, nc_10, nz_11, nc_11, nz_12, nc_12, if_true, if_false, eq_self, true_and, and_true, false_or, or_false, true_or, or_true, false_and, and_false, not_true, not_false_eq_true, ne_eq, ite_self, ite_not, ↓reduceIte]
  · rw [if_neg h2, if_pos nI_0, if_neg (fun h => h2 ⟨h.1, (pr_lt hm h.1).mpr h.2⟩)]
theorem o_if {p : Prop} [Decidable p] {A B : Int32} {S : am_S} : (if p then (some (some (Value.int A), S) : am_R) else some (some (.int B), S)) = some (some (.int (if p then A else B)), S) := by
  by_cases h : p
  · rw [if_pos h, if_pos h]
  · rw [if_neg h, if_neg h]
theorem k136 (hR : Rep I 1 s) (hW : WF s) (ha : I 0 18 = a) (hb : I 0 17 = b) (hc : I 205 1 = c) : am_cal (d + 3) 136 [.ref 0, .int x] (mS I J) = some (some (.int (v_many s a b c x)), mS I J) := by
  have h70 := k70 (d := d) (J := J) W1 hR hW
  have hl : I 8 4 = s 6 := hR.L.1
  rw [c_136 lc_0]
  simp only [lc_0, lr_0_0, lr_0_9, lc_205, w_C W1, w_R6 W1, show lyC (1 + 7) = 3 from l_C W1.l, show 1 + 7 = 8 from rfl, hR.ppl, hR.evs, hR.cls, hR.dds, hR.wds, hR.day, hl, ha, hb, hc, h70, bq_s, mS_c, mS_l, mS_r, mS_i, mS_j, mS_pi, mS_pj, lt_st, bq_s, bV_s, bI_s, bJ_s, bA_s, nz_0, nc_0, nz_1, nc_1, nz_2, nc_2, nz_3, nc_3, nz_4, nc_4, nz_5, nc_5, nz_6, nc_6, nz_7, nc_7, nz_8, nc_8, nz_9, nc_9, nz_10, nc_10, nz_11, nc_11, nz_12, nc_12, if_true, if_false, eq_self, true_and, and_true, false_or, or_false, true_or, or_true, false_and, and_false, not_true, not_false_eq_true, ne_eq, ite_self, ite_not, ↓reduceIte, n_101, n_107, n_11]
  simp only [o_if]
  rfl
theorem m268 (hW : WF (I 230)) (ha : I 229 24 = a) (hb : I 229 7 = b) (hc : I 229 35 = c) : am_cal (d + 4) 268 [.ref 229, .int x] (mS I J) = some (some (.int (v_many (I 230) a b c x)), mS I J) := by
  have h156 := m156 (d := d) (J := J) hW
  rw [c_268 lc_229]
  simp only [lc_229, ha, hb, hc, h156, n_lef (show 1 < 546 by decide), n_lef (show 2 < 546 by decide), n_lef (show 3 < 546 by decide), n_lef (show 4 < 546 by decide), n_lef (show 5 < 546 by decide), n_lef (show 6 < 546 by decide), n_lef (show 0 < 546 by decide), lc_229, lr_229_0, lc_230, ll_230, bq_s, mS_c, mS_l, mS_r, mS_i, mS_j, mS_pi, mS_pj, lt_st, bq_s, bV_s, bI_s, bJ_s, bA_s, nz_0, nc_0, nz_1, nc_1, nz_2, nc_2, nz_3, nc_3, nz_4, nc_4, nz_5, nc_5, nz_6, nc_6, nz_7, nc_7, nz_8, nc_8, nz_9, nc_9, nz_10, nc_10, nz_11, nc_11, nz_12, nc_12, if_true, if_false, eq_self, true_and, and_true, false_or, or_false, true_or, or_true, false_and, and_false, not_true, not_false_eq_true, ne_eq, ite_self, ite_not, ↓reduceIte]
  simp only [o_if]
  rfl
end H9s
