/-! ===== the model: the law on an event, and now ===== -/
section B6
variable {I : mI} {J : mJ} {w p q e c d l b : Nat} {s : Rw} {x key : Int32}
theorem F1.tr {b c : Nat} {I I1 I2 : mI} (h1 : F1 b I1 I) (h2 : F1 c I2 I1) : F2 b c I2 I := fun a ha hb => by rw [h2 a hb, h1 a ha]
theorem m197f {I1 : mI} {f : Rw} (hW : WF (I 230)) (h1 : F1 236 I1 I) (hf : ∀ j, j < 6 → I1 236 j = f j) : ∃ I', F2 236 237 I' I ∧ am_cal (d + 3) 197 [.ref 229, .int key] (mS I1 J) = some (some (.int (lawV (I 230) key f)), mS I' J) := by
  have e0 := h1 230 (by decide)
  obtain ⟨I', h2, hr⟩ := m197 (d := d) (J := J) (I := I1) (key := key) (by rw [e0]; exact hW)
  refine ⟨I', h1.tr h2, ?_⟩
  rw [hr, e0, lawV_ag hW hf]
theorem m198 (hW : WF (I 230)) (he : e < nE (I 230)) (hs : eF (I 230) e 0 = nI 1 ∨ eF (I 230) e 0 = nI 2) (hp : p < nP (I 230)) (hep : eF (I 230) e 1 = nI p) : ∃ I', F2 236 237 I' I ∧ am_cal (d + 4) 198 [.ref 229, .int key, .int (nI e), .int (Int32.ofInt (-1))] (mS I J) = some (some (.int (onE (I 230) key e p (nI 0) (nI 0))), mS I' J) := by
  have n1 := hW.nP.1
  have n2 := hW.nE.1
  have hep : I 230 (130 + 3 * e + 1) = nI p := hep
  have a0 : nI 130 + nI 3 * nI e = nI (130 + 3 * e) := by rw [pk_mul, nI_add]
  have a1 : nI (130 + 3 * e) + nI 1 = nI (130 + 3 * e + 1) := nI_add _ _
  have a2 : nI (130 + 3 * e) + nI 2 = nI (130 + 3 * e + 2) := nI_add _ _
  have i0c : (nI (130 + 3 * e)).toNatClampNeg = 130 + 3 * e := nI_clamp (by omega)
  have i0z : (nI (130 + 3 * e) < 0) = False := n_ge0 (by omega)
  have i0l : (546 ≤ 130 + 3 * e) = False := n_lef (by omega)
  have i1c : (nI (130 + 3 * e + 1)).toNatClampNeg = 130 + 3 * e + 1 := nI_clamp (by omega)
  have i1z : (nI (130 + 3 * e + 1) < 0) = False := n_ge0 (by omega)
  have i1l : (546 ≤ 130 + 3 * e + 1) = False := n_lef (by omega)
  have i2c : (nI (130 + 3 * e + 2)).toNatClampNeg = 130 + 3 * e + 2 := nI_clamp (by omega)
  have i2z : (nI (130 + 3 * e + 2) < 0) = False := n_ge0 (by omega)
  have i2l : (546 ≤ 130 + 3 * e + 2) = False := n_lef (by omega)
  have fr : ∀ {I1 : mI}, F1 236 I1 I → ∀ {f : Nat}, f < 10 → ∀ d, am_cal (d + 1) 152 [.ref 229, .int (nI p), .int (nI f)] (mS I1 J) = some (some (.int (pF (I 230) p f)), mS I1 J) := fun h1 _ hf d => by
    rw [m152 (by omega) hf, h1 230 (by decide)]
  have m1 : (Int32.ofInt (-1) < 0) = True := eq_true (by decide +kernel)
  have z6 : ∀ k, k < 6 → (6 ≤ k) = False := fun k hk => n_lef hk
  have fin : ∀ (I1 : mI) (x4 : Int32), I1 = wI I 236 0 (I 230 (130 + 3 * e + 2)) → (x4 = nI 1 ∨ x4 = nI 2) → ∃ I', F2 236 237 I' I ∧ am_X (am_cal (d + 3)) 198 56 [.ref 229, .int key, .null, .int (Int32.ofInt (-1)), .int x4, .int (nI p), .int (nI 1)] [.int (nI p), .int (nI 1), .ref 236] (mS I1 J) = some (some (.int (onE (I 230) key e p (nI 0) (nI 0))), mS I' J) := by
    intro I1 x4 h1 hx4
    subst h1
    obtain ⟨I', hF, hr⟩ := m197f (d := d) (J := J) (key := key) hW F1_6 (fct_6 (I := I) (q := 236) (a := I 230 (130 + 3 * e + 2)) (b := nI p) (c := pF (I 230) p 4 - pF (I 230) p 5) (d := pF (I 230) p 1) (e := nI 0) (g := nI 0))
    refine ⟨I', hF, ?_⟩
    have x4n : (x4 = nI 4) = False := eq_false (by rcases hx4 with rfl | rfl <;> decide)
    have o1 : (nI 1 = 0) = False := eq_false (by decide)
    have f1 : F1 236 (wI (wI I 236 0 (I 230 (130 + 3 * e + 2))) 236 1 (nI p)) I := fun a ha => by rw [wI_F1 a ha, wI_F1 a ha]
    have f2 : ∀ v, F1 236 (wI (wI (wI I 236 0 (I 230 (130 + 3 * e + 2))) 236 1 (nI p)) 236 2 v) I := fun v a ha => by rw [wI_F1 a ha, f1 a ha]
    rw [e_198_56]
    simp only [lc_229, lr_229_14, lc_236, ll_236, bq_s, mS_c, mS_l, mS_r, mS_i, mS_j, mS_pi, mS_pj, lt_st, bq_s, bV_s, bI_s, bJ_s, bA_s, nz_0, nc_0, nz_1, nc_1, nz_2, nc_2, nz_3, nc_3, nz_4, nc_4, nz_5, nc_5, nz_6, nc_6, nz_7, nc_7, nz_8, nc_8, nz_9, nc_9, nz_10, nc_10, nz_11, nc_11, nz_12, nc_12, if_true, if_false, eq_self, true_and, and_true, false_or, or_false, true_or, or_true, false_and, and_false, not_true, not_false_eq_true, ne_eq, ite_self, ite_not, ↓reduceIte, z6 1 (by decide), o1, fr f1 (show 4 < 10 by decide), fr f1 (show 5 < 10 by decide)]
    rw [e_198_73]
    simp only [lc_229, lr_229_14, lc_236, ll_236, bq_s, mS_c, mS_l, mS_r, mS_i, mS_j, mS_pi, mS_pj, lt_st, bq_s, bV_s, bI_s, bJ_s, bA_s, nz_0, nc_0, nz_1, nc_1, nz_2, nc_2, nz_3, nc_3, nz_4, nc_4, nz_5, nc_5, nz_6, nc_6, nz_7, nc_7, nz_8, nc_8, nz_9, nc_9, nz_10, nc_10, nz_11, nc_11, nz_12, nc_12, if_true, if_false, eq_self, true_and, and_true, false_or, or_false, true_or, or_true, false_and, and_false, not_true, not_false_eq_true, ne_eq, ite_self, ite_not, ↓reduceIte, z6 2 (by decide), x4n, fr (f2 _) (show 1 < 10 by decide)]
    rw [e_198_86]
    simp only [lc_229, lr_229_14, lc_236, ll_236, bq_s, mS_c, mS_l, mS_r, mS_i, mS_j, mS_pi, mS_pj, lt_st, bq_s, bV_s, bI_s, bJ_s, bA_s, nz_0, nc_0, nz_1, nc_1, nz_2, nc_2, nz_3, nc_3, nz_4, nc_4, nz_5, nc_5, nz_6, nc_6, nz_7, nc_7, nz_8, nc_8, nz_9, nc_9, nz_10, nc_10, nz_11, nc_11, nz_12, nc_12, if_true, if_false, eq_self, true_and, and_true, false_or, or_false, true_or, or_true, false_and, and_false, not_true, not_false_eq_true, ne_eq, ite_self, ite_not, ↓reduceIte, z6 3 (by decide), m1]
    rw [e_198_104]
    simp only [lc_229, lr_229_14, lc_236, ll_236, bq_s, mS_c, mS_l, mS_r, mS_i, mS_j, mS_pi, mS_pj, lt_st, bq_s, bV_s, bI_s, bJ_s, bA_s, nz_0, nc_0, nz_1, nc_1, nz_2, nc_2, nz_3, nc_3, nz_4, nc_4, nz_5, nc_5, nz_6, nc_6, nz_7, nc_7, nz_8, nc_8, nz_9, nc_9, nz_10, nc_10, nz_11, nc_11, nz_12, nc_12, if_true, if_false, eq_self, true_and, and_true, false_or, or_false, true_or, or_true, false_and, and_false, not_true, not_false_eq_true, ne_eq, ite_self, ite_not, ↓reduceIte, z6 4 (by decide), z6 5 (by decide), m1, hr]
    rfl
  rw [c_198 lc_229]
  simp only [lc_229, lr_229_0, lr_229_14, lc_230, ll_230, lc_236, ll_236, bq_s, mS_c, mS_l, mS_r, mS_i, mS_j, mS_pi, mS_pj, lt_st, bq_s, bV_s, bI_s, bJ_s, bA_s, nz_0, nc_0, nz_1, nc_1, nz_2, nc_2, nz_3, nc_3, nz_4, nc_4, nz_5, nc_5, nz_6, nc_6, nz_7, nc_7, nz_8, nc_8, nz_9, nc_9, nz_10, nc_10, nz_11, nc_11, nz_12, nc_12, if_true, if_false, eq_self, true_and, and_true, false_or, or_false, true_or, or_true, false_and, and_false, not_true, not_false_eq_true, ne_eq, ite_self, ite_not, ↓reduceIte, z6 0 (by decide), a0, a1, a2, i0c, i0z, i0l, i1c, i1z, i1l, i2c, i2z, i2l, hep]
  rcases hs with hs | hs
  · have hs : I 230 (130 + 3 * e) = nI 1 := hs
    simp only [hs, if_true, if_false, eq_self, true_and, and_true, false_or, or_false, true_or, or_true, false_and, and_false, not_true, not_false_eq_true, ne_eq, ite_self, ite_not, ↓reduceIte, show (nI 1 = nI 3) = False from eq_false (by decide)]
    exact fin _ _ rfl (Or.inl rfl)
  · have hs : I 230 (130 + 3 * e) = nI 2 := hs
    simp only [hs, if_true, if_false, eq_self, true_and, and_true, false_or, or_false, true_or, or_true, false_and, and_false, not_true, not_false_eq_true, ne_eq, ite_self, ite_not, ↓reduceIte, show (nI 2 = nI 3) = False from eq_false (by decide), show (nI 2 = nI 1) = False from eq_false (by decide)]
    exact fin _ _ rfl (Or.inr rfl)
end B6
