/-! ===== the model: deed, wed ===== -/
def ddS (s : Rw) (p : Int32) : Rw := rset (rset (rset s (244 + 2 * nD s) p) (244 + 2 * nD s + 1) (s 0)) 4 (nI (nD s + 1))
def v_deed (s : Rw) (x : Int32) : Int32 := if isP s x then (if isAw s x.toNatClampNeg then (if nD s < 10 then nI (nD s) else Int32.ofInt (-2)) else Int32.ofInt (-4)) else Int32.ofInt (-1)
def tr_deed (s : Rw) (x : Int32) : Rw := if isP s x then (if isAw s x.toNatClampNeg then (if nD s < 10 then ddS s x else s) else s) else s
def wdS (s : Rw) (p q : Int32) : Rw := rset (rset (rset (rset (rset s (264 + 4 * nW s) p) (264 + 4 * nW s + 1) q) (264 + 4 * nW s + 2) (s 0)) (264 + 4 * nW s + 3) (s 2)) 5 (nI (nW s + 1))
noncomputable def v_wedq (s : Rw) (x y : Int32) : Int32 := if okJo s x y then (if (isAw s x.toNatClampNeg ∧ isAw s y.toNatClampNeg) ∧ bit (acr s x.toNatClampNeg) y.toNatClampNeg = false then (if nW s < 8 then nI (nW s) else Int32.ofInt (-2)) else Int32.ofInt (-4)) else Int32.ofInt (-1)
noncomputable def tr_wedq (s : Rw) (x y : Int32) : Rw := if okJo s x y then (if (isAw s x.toNatClampNeg ∧ isAw s y.toNatClampNeg) ∧ bit (acr s x.toNatClampNeg) y.toNatClampNeg = false then (if nW s < 8 then wdS s x y else s) else s) else s
section F4s
variable {I : mI} {J : mJ} {w p q e c d l b g r k : Nat} {s : Rw} {x y z u v key day sort : Int32}
theorem m215 (hW : WF (I 230)) : am_cal (d + 3) 215 [.ref 229, .int x] (mS I J) = some (some (.int (v_deed (I 230) x)), mS (wR I (tr_deed (I 230) x)) J) := by
  have h12 := hW.nP.1
  have h10 := hW.nD.1
  rw [c_215 lc_229, m153 hW, bI_s]
  unfold v_deed tr_deed
  by_cases hx : isP (I 230) x
  · rw [if_pos hx, if_pos hx, if_pos hx, if_neg (by decide)]
    obtain ⟨p, hp, rfl⟩ := isP_n hW hx
    rw [m154 (by omega), bI_s, nI_clamp (show p < 2 ^ 31 by omega)]
    by_cases ha : isAw (I 230) p
    · rw [if_pos ha, if_pos ha, if_pos ha, if_neg (by decide)]
      by_cases hD : nD (I 230) < 10
      · have e10 : (I 230 4 = nI 10) = False := eq_false (by rw [hW.nD.2, n_eq (by omega) (by decide)]; omega)
        rw [if_pos hD, if_pos hD]
        have h4 := hW.nD.2
        unfold ddS
        generalize hn : nD (I 230) = n at hD h4
        have n10 : (nI n = nI 10) = False := by rw [← h4]; exact e10
        have b0 : nI 244 + nI 2 * nI n = nI (244 + 2 * n) := by rw [pk_mul, nI_add]
        have b1 : nI (244 + 2 * n) + nI 1 = nI (244 + 2 * n + 1) := nI_add _ _
        have i0c : (nI (244 + 2 * n)).toNatClampNeg = 244 + 2 * n := nI_clamp (by omega)
        have i0z : (nI (244 + 2 * n) < 0) = False := n_ge0 (by omega)
        have i0l : (546 ≤ 244 + 2 * n) = False := n_lef (by omega)
        have i1c : (nI (244 + 2 * n + 1)).toNatClampNeg = 244 + 2 * n + 1 := nI_clamp (by omega)
        have i1z : (nI (244 + 2 * n + 1) < 0) = False := n_ge0 (by omega)
        have i1l : (546 ≤ 244 + 2 * n + 1) = False := n_lef (by omega)
        have q00 : ∀ (t : Rw) (v : Int32), rset t (244 + 2 * n) v 0 = t 0 := fun _ _ => rset_n (by omega)
        have q01 : ∀ (t : Rw) (v : Int32), rset t (244 + 2 * n) v 1 = t 1 := fun _ _ => rset_n (by omega)
        have q02 : ∀ (t : Rw) (v : Int32), rset t (244 + 2 * n) v 2 = t 2 := fun _ _ => rset_n (by omega)
        have q10 : ∀ (t : Rw) (v : Int32), rset t (244 + 2 * n + 1) v 0 = t 0 := fun _ _ => rset_n (by omega)
        have q11 : ∀ (t : Rw) (v : Int32), rset t (244 + 2 * n + 1) v 1 = t 1 := fun _ _ => rset_n (by omega)
        have q12 : ∀ (t : Rw) (v : Int32), rset t (244 + 2 * n + 1) v 2 = t 2 := fun _ _ => rset_n (by omega)
        have u0 : ∀ (t : Rw) (v : Int32), rset t (244 + 2 * n) v 4 = t 4 := fun t v => rset_n (by omega)
        have u1 : ∀ (t : Rw) (v : Int32), rset t (244 + 2 * n + 1) v 4 = t 4 := fun t v => rset_n (by omega)
        have e4 : ∀ (t : Rw) (v : Int32), rset t 4 v 4 = v := fun _ _ => rset_e
        have hp' : nI (n + 1) - nI 1 = nI n := n_pred
        simp only [h4, n10, b0, b1, i0c, i0z, i0l, i1c, i1z, i1l, wI_R, wR_r, wR_wR, q00, q01, q02, q10, q11, q12, u0, u1, e4, n_lef (show 4 < 546 by decide), n_lef (show 0 < 546 by decide), nI_add, hp', lc_229, lr_229_0, lc_230, ll_230, bq_s, mS_c, mS_l, mS_r, mS_i, mS_j, mS_pi, mS_pj, lt_st, bq_s, bV_s, bI_s, bJ_s, bA_s, nz_0, nc_0, nz_1, nc_1, nz_2, nc_2, nz_3, nc_3, nz_4, nc_4, nz_5, nc_5, nz_6, nc_6, nz_7, nc_7, nz_8, nc_8, nz_9, nc_9, nz_10, nc_10, nz_11, nc_11, nz_12, nc_12, if_true, if_false, eq_self, true_and, and_true, false_or, or_false, true_or, or_true, false_and, and_false, not_true, not_false_eq_true, ne_eq, ite_self, ite_not, ↓reduceIte]
      · have e10 : (I 230 4 = nI 10) = True := eq_true (by rw [hW.nD.2, n_eq (by omega) (by decide)]; omega)
        rw [if_neg hD, if_neg hD, wR_I]
        simp only [n_lef (show 4 < 546 by decide), e10, lc_229, lr_229_0, lc_230, ll_230, bq_s, mS_c, mS_l, mS_r, mS_i, mS_j, mS_pi, mS_pj, lt_st, bq_s, bV_s, bI_s, bJ_s, bA_s, nz_0, nc_0, nz_1, nc_1, nz_2, nc_2, nz_3, nc_3, nz_4, nc_4, nz_5, nc_5, nz_6, nc_6, nz_7, nc_7, nz_8, nc_8, nz_9, nc_9, nz_10, nc_10, nz_11, nc_11, nz_12, nc_12, if_true, if_false, eq_self, true_and, and_true, false_or, or_false, true_or, or_true, false_and, and_false, not_true, not_false_eq_true, ne_eq, ite_self, ite_not, ↓reduceIte]
    · rw [if_neg ha, if_neg ha, if_neg ha, if_pos nI_0, wR_I]
  · rw [if_neg hx, if_neg hx, if_neg hx, if_pos nI_0, wR_I]
/-- his row is written, and what a question may leave otherwise -/
abbrev FMw (I' I : mI) (s : Rw) : Prop := ∃ I1, FM I1 I ∧ I' = wR I1 s
set_option maxRecDepth 4096 in
theorem m228 (hW : WF (I 230)) : ∃ I', FM I' I ∧ am_cal (d + 10) 228 [.ref 229, .int x, .int y] (mS I J) = some (some (.int (v_wedq (I 230) x y)), mS (wR I' (tr_wedq (I 230) x y)) J) := by
  have h12 := hW.nP.1
  have h8 := hW.nW.1
  have bad : ¬ okJo (I 230) x y → some (some (Value.int (Int32.ofInt (-1))), mS I J) = some (some (.int (v_wedq (I 230) x y)), mS (wR I (tr_wedq (I 230) x y)) J) := fun hn => by
    unfold v_wedq tr_wedq
    rw [if_neg hn, if_neg hn, wR_I]
  rw [c_228 lc_229, m153 hW, bI_s]
  by_cases hx : isP (I 230) x
  · rw [if_pos hx, if_neg (by decide), m153 hW, bI_s]
    by_cases hy : isP (I 230) y
    · rw [if_pos hy, if_neg (by decide)]
      by_cases hxy : x = y
      · rw [if_pos hxy]
        exact ⟨I, FM.rf, bad fun h => h.2.2 hxy⟩
      · rw [if_neg hxy]
        have hok : okJo (I 230) x y := ⟨hx, hy, hxy⟩
        unfold v_wedq tr_wedq
        rw [if_pos hok, if_pos hok]
        obtain ⟨p, hp, rfl⟩ := isP_n hW hx
        obtain ⟨q, hq, rfl⟩ := isP_n hW hy
        rw [m154 (by omega), bI_s, nI_clamp (show p < 2 ^ 31 by omega), nI_clamp (show q < 2 ^ 31 by omega)]
        by_cases ha : isAw (I 230) p
        · rw [if_pos ha, if_neg (by decide), m154 (by omega), bI_s]
          by_cases hb : isAw (I 230) q
          · rw [if_pos hb, if_neg (by decide)]
            obtain ⟨I1, hF, hr⟩ := m227 (d := d) (J := J) hW hp
            have f0 := hF.sr
            rw [hr, bI_s]
            refine ⟨I1, hF, ?_⟩
            by_cases hz : bit (acr (I 230) p) q = false
            · have hab : (isAw (I 230) p ∧ isAw (I 230) q) ∧ bit (acr (I 230) p) q = false := ⟨⟨ha, hb⟩, hz⟩
              rw [if_pos hab, if_pos hab, if_neg (by rw [bit_at1 (show q < 32 by omega), hz]; decide)]
              by_cases hV : nW (I 230) < 8
              · rw [if_pos hV, if_pos hV]
                have h5 := hW.nW.2
                unfold wdS
                generalize hn : nW (I 230) = n at hV h5
                have n8 : (nI n = nI 8) = False := eq_false (by rw [n_eq (by omega) (by decide)]; omega)
                have b0 : nI 264 + nI 4 * nI n = nI (264 + 4 * n) := by rw [pk_mul, nI_add]
                have ad : ∀ j, nI (264 + 4 * n) + nI j = nI (264 + 4 * n + j) := fun j => nI_add _ _
                have i0c : (nI (264 + 4 * n)).toNatClampNeg = 264 + 4 * n := nI_clamp (by omega)
                have i0z : (nI (264 + 4 * n) < 0) = False := n_ge0 (by omega)
                have i0l : (546 ≤ 264 + 4 * n) = False := n_lef (by omega)
                have i1c : (nI (264 + 4 * n + 1)).toNatClampNeg = 264 + 4 * n + 1 := nI_clamp (by omega)
                have i1z : (nI (264 + 4 * n + 1) < 0) = False := n_ge0 (by omega)
                have i1l : (546 ≤ 264 + 4 * n + 1) = False := n_lef (by omega)
                have i2c : (nI (264 + 4 * n + 2)).toNatClampNeg = 264 + 4 * n + 2 := nI_clamp (by omega)
                have i2z : (nI (264 + 4 * n + 2) < 0) = False := n_ge0 (by omega)
                have i2l : (546 ≤ 264 + 4 * n + 2) = False := n_lef (by omega)
                have i3c : (nI (264 + 4 * n + 3)).toNatClampNeg = 264 + 4 * n + 3 := nI_clamp (by omega)
                have i3z : (nI (264 + 4 * n + 3) < 0) = False := n_ge0 (by omega)
                have i3l : (546 ≤ 264 + 4 * n + 3) = False := n_lef (by omega)
                have q00 : ∀ (t : Rw) (v : Int32), rset t (264 + 4 * n) v 0 = t 0 := fun _ _ => rset_n (by omega)
                have q01 : ∀ (t : Rw) (v : Int32), rset t (264 + 4 * n) v 1 = t 1 := fun _ _ => rset_n (by omega)
                have q02 : ∀ (t : Rw) (v : Int32), rset t (264 + 4 * n) v 2 = t 2 := fun _ _ => rset_n (by omega)
                have q10 : ∀ (t : Rw) (v : Int32), rset t (264 + 4 * n + 1) v 0 = t 0 := fun _ _ => rset_n (by omega)
                have q11 : ∀ (t : Rw) (v : Int32), rset t (264 + 4 * n + 1) v 1 = t 1 := fun _ _ => rset_n (by omega)
                have q12 : ∀ (t : Rw) (v : Int32), rset t (264 + 4 * n + 1) v 2 = t 2 := fun _ _ => rset_n (by omega)
                have q20 : ∀ (t : Rw) (v : Int32), rset t (264 + 4 * n + 2) v 0 = t 0 := fun _ _ => rset_n (by omega)
                have q21 : ∀ (t : Rw) (v : Int32), rset t (264 + 4 * n + 2) v 1 = t 1 := fun _ _ => rset_n (by omega)
                have q22 : ∀ (t : Rw) (v : Int32), rset t (264 + 4 * n + 2) v 2 = t 2 := fun _ _ => rset_n (by omega)
                have q30 : ∀ (t : Rw) (v : Int32), rset t (264 + 4 * n + 3) v 0 = t 0 := fun _ _ => rset_n (by omega)
                have q31 : ∀ (t : Rw) (v : Int32), rset t (264 + 4 * n + 3) v 1 = t 1 := fun _ _ => rset_n (by omega)
                have q32 : ∀ (t : Rw) (v : Int32), rset t (264 + 4 * n + 3) v 2 = t 2 := fun _ _ => rset_n (by omega)
                have u0 : ∀ (t : Rw) (v : Int32), rset t (264 + 4 * n) v 5 = t 5 := fun t v => rset_n (by omega)
                have u1 : ∀ (t : Rw) (v : Int32), rset t (264 + 4 * n + 1) v 5 = t 5 := fun t v => rset_n (by omega)
                have u2 : ∀ (t : Rw) (v : Int32), rset t (264 + 4 * n + 2) v 5 = t 5 := fun t v => rset_n (by omega)
                have u3 : ∀ (t : Rw) (v : Int32), rset t (264 + 4 * n + 3) v 5 = t 5 := fun t v => rset_n (by omega)
                have e5 : ∀ (t : Rw) (v : Int32), rset t 5 v 5 = v := fun _ _ => rset_e
                have hp' : nI (n + 1) - nI 1 = nI n := n_pred
                simp only [f0, h5, n8, b0, ad, i0c, i0z, i0l, i1c, i1z, i1l, i2c, i2z, i2l, i3c, i3z, i3l, wI_R, wR_r, wR_wR, q00, q01, q02, q10, q11, q12, q20, q21, q22, q30, q31, q32, u0, u1, u2, u3, e5, n_lef (show 5 < 546 by decide), n_lef (show 0 < 546 by decide), n_lef (show 2 < 546 by decide), nI_add, hp', lc_229, lr_229_0, lc_230, ll_230, bq_s, mS_c, mS_l, mS_r, mS_i, mS_j, mS_pi, mS_pj, lt_st, bq_s, bV_s, bI_s, bJ_s, bA_s, nz_0, nc_0, nz_1, nc_1, nz_2, nc_2, nz_3, nc_3, nz_4, nc_4, nz_5, nc_5, nz_6, nc_6, nz_7, nc_7, nz_8, nc_8, nz_9, nc_9, nz_10, nc_10, nz_11, nc_11, nz_12, nc_12, if_true, if_false, eq_self, true_and, and_true, false_or, or_false, true_or, or_true, false_and, and_false, not_true, not_false_eq_true, ne_eq, ite_self, ite_not, ↓reduceIte]
              · have e8 : (I 230 5 = nI 8) = True := eq_true (by rw [hW.nW.2, n_eq (by omega) (by decide)]; omega)
                rw [if_neg hV, if_neg hV, ← f0, wR_I]
                rw [← f0] at e8
                simp only [n_lef (show 5 < 546 by decide), e8, lc_229, lr_229_0, lc_230, ll_230, bq_s, mS_c, mS_l, mS_r, mS_i, mS_j, mS_pi, mS_pj, lt_st, bq_s, bV_s, bI_s, bJ_s, bA_s, nz_0, nc_0, nz_1, nc_1, nz_2, nc_2, nz_3, nc_3, nz_4, nc_4, nz_5, nc_5, nz_6, nc_6, nz_7, nc_7, nz_8, nc_8, nz_9, nc_9, nz_10, nc_10, nz_11, nc_11, nz_12, nc_12, if_true, if_false, eq_self, true_and, and_true, false_or, or_false, true_or, or_true, false_and, and_false, not_true, not_false_eq_true, ne_eq, ite_self, ite_not, ↓reduceIte]
            · have hab : ¬ ((isAw (I 230) p ∧ isAw (I 230) q) ∧ bit (acr (I 230) p) q = false) := fun h => hz h.2
              rw [if_neg hab, if_neg hab, if_pos (by rw [bit_at1 (show q < 32 by omega)]; exact (Bool.not_eq_false _).mp hz), ← f0, wR_I]
          · have hab : ¬ ((isAw (I 230) p ∧ isAw (I 230) q) ∧ bit (acr (I 230) p) q = false) := fun h => hb h.1.2
            rw [if_neg hb, if_pos nI_0, if_neg hab, if_neg hab]
            exact ⟨I, FM.rf, by rw [wR_I]⟩
        · have hab : ¬ ((isAw (I 230) p ∧ isAw (I 230) q) ∧ bit (acr (I 230) p) q = false) := fun h => ha h.1.1
          rw [if_neg ha, if_pos nI_0, if_neg hab, if_neg hab]
          exact ⟨I, FM.rf, by rw [wR_I]⟩
    · rw [if_neg hy, if_pos nI_0]
      exact ⟨I, FM.rf, bad fun h => hy h.2.1⟩
  · rw [if_neg hx, if_pos nI_0]
    exact ⟨I, FM.rf, bad fun h => hx h.1⟩
end F4s
