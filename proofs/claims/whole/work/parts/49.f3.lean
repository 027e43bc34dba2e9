/-! ===== the model's calls that write ===== -/
abbrev okR (s : Rw) : Prop := nP s < 12 ∧ nE s < 18
def v_later (s : Rw) (x : Int32) : Int32 := if ¬ x < nI 1 ∧ ¬ nI 99 < x then (if nI 999 < s 0 + x then Int32.ofInt (-2) else s 0 + x) else Int32.ofInt (-1)
def tr_later (s : Rw) (x : Int32) : Rw := if ¬ x < nI 1 ∧ ¬ nI 99 < x then (if nI 999 < s 0 + x then s else rset s 0 (s 0 + x)) else s
def v_born (s : Rw) : Int32 := if okR s then nI (nP s) else Int32.ofInt (-2)
def tr_born (s : Rw) : Rw := if okR s then coS s (nI 0) (nI 1) m9 m9 else s
def cpS (s : Rw) (frm kind part moment leave : Int32) : Rw := rset (rset (rset (coS s (nI 1) kind frm m9) (10 + 10 * nP s + 5) moment) (10 + 10 * nP s + 6) (if kind = nI 3 then part else nI 2)) (10 + 10 * nP s + 8) (if leave = 0 then nI 0 else nI 1)
abbrev okCp (s : Rw) (x y z u : Int32) : Prop := isP s x ∧ (y = nI 2 ∨ y = nI 3 ∨ y = nI 5) ∧ (y = nI 3 → ¬ z < nI 1 ∧ ¬ nI 3 < z) ∧ ¬ u < 0 ∧ ¬ s 0 < u
def v_copied (s : Rw) (x y z u : Int32) : Int32 := if okCp s x y z u then (if isAw s x.toNatClampNeg then (if okR s then nI (nP s) else Int32.ofInt (-2)) else Int32.ofInt (-4)) else Int32.ofInt (-1)
def tr_copied (s : Rw) (x y z u v : Int32) : Rw := if okCp s x y z u then (if isAw s x.toNatClampNeg then (if okR s then cpS s x y z u v else s) else s) else s
def wkS (s : Rw) (p : Nat) : Rw := evS (rset s (10 + 10 * p) (nI 2)) (nI 2) (nI p)
def v_wake (s : Rw) (x : Int32) : Int32 := if isP s x then (if pF s x.toNatClampNeg 0 = nI 5 then (if nE s < 18 then nI 1 else Int32.ofInt (-2)) else Int32.ofInt (-4)) else Int32.ofInt (-1)
def tr_wake (s : Rw) (x : Int32) : Rw := if isP s x then (if pF s x.toNatClampNeg 0 = nI 5 then (if nE s < 18 then wkS s x.toNatClampNeg else s) else s) else s
def joS (s : Rw) (p q : Nat) : Rw := rset (rset (rset (rset (coS s (nI 3) (nI 4) (nI p) (nI q)) (10 + 10 * p) (nI 6)) (10 + 10 * q) (nI 6)) (10 + 10 * p + 7) (nI (nP s))) (10 + 10 * q + 7) (nI (nP s))
abbrev okJo (s : Rw) (x y : Int32) : Prop := isP s x ∧ isP s y ∧ ¬ x = y
def v_join (s : Rw) (x y : Int32) : Int32 := if okJo s x y then (if isAw s x.toNatClampNeg ∧ isAw s y.toNatClampNeg then (if okR s then nI (nP s) else Int32.ofInt (-2)) else Int32.ofInt (-4)) else Int32.ofInt (-1)
def tr_join (s : Rw) (x y : Int32) : Rw := if okJo s x y then (if isAw s x.toNatClampNeg ∧ isAw s y.toNatClampNeg then (if okR s then joS s x.toNatClampNeg y.toNatClampNeg else s) else s) else s
def enS (s : Rw) (p : Nat) : Rw := evS (rset s (10 + 10 * p) (nI 6)) (nI 4) (nI p)
def v_end (s : Rw) (x : Int32) : Int32 := if isP s x then (if pF s x.toNatClampNeg 0 = nI 6 then Int32.ofInt (-4) else if nE s < 18 then nI (awk (enS s x.toNatClampNeg)) else Int32.ofInt (-2)) else Int32.ofInt (-1)
def tr_end (s : Rw) (x : Int32) : Rw := if isP s x then (if pF s x.toNatClampNeg 0 = nI 6 then s else if nE s < 18 then enS s x.toNatClampNeg else s) else s
section F3s
variable {I : mI} {J : mJ} {w p q e c d l b g r k : Nat} {s : Rw} {x y z u v key day sort : Int32}
theorem wR_I {I : mI} : wR I (I 230) = I := by
  funext a
  unfold wR
  by_cases h : a = 230
  · rw [if_pos h, h]
  · rw [if_neg h]
theorem m160 (hW : WF (I 230)) : am_cal (d + 2) 160 [.ref 229, .int x] (mS I J) = some (some (.int (v_later (I 230) x)), mS (wR I (tr_later (I 230) x)) J) := by
  have r0 : ∀ (t : Rw) (v : Int32), rset t 0 v 0 = v := fun _ _ => rset_e
  rw [c_160 lc_229, m151 (by decide) (by decide), bI_s]
  unfold v_later tr_later
  by_cases h1 : ¬ x < nI 1 ∧ ¬ nI 99 < x
  · rw [if_pos h1, if_pos h1, if_pos h1, if_neg (by decide)]
    simp only [n_lef (show 0 < 546 by decide), wI_R, wR_r, wR_wR, r0, lc_229, lr_229_0, lc_230, ll_230, bq_s, mS_c, mS_l, mS_r, mS_i, mS_j, mS_pi, mS_pj, lt_st, bq_s, bV_s, bI_s, bJ_s, bA_s, nz_0, nc_0, nz_1, nc_1, nz_2, nc_2, nz_3, nc_3, nz_4, nc_4, nz_5, nc_5, nz_6, nc_6, nz_7, nc_7, nz_8, nc_8, nz_9, nc_9, nz_10, nc_10, nz_11, nc_11, nz_12, nc_12, if_true, if_false, eq_self, true_and, and_true, false_or, or_false, true_or, or_true, false_and, and_false, not_true, not_false_eq_true, ne_eq, ite_self, ite_not, ↓reduceIte]
    by_cases h2 : nI 999 < I 230 0 + x
    · rw [if_pos h2, if_pos h2, if_pos h2, wR_I]
    · rw [if_neg h2, if_neg h2, if_neg h2]
  · rw [if_neg h1, if_neg h1, if_neg h1, if_pos nI_0, wR_I]
theorem okR_i (hW : WF s) : (s 1 < nI 12 ∧ s 2 < nI 18) = okR s := by
  have h12 := hW.nP.1
  have h18 := hW.nE.1
  rw [hW.nP.2, hW.nE.2, n_lt (by omega) (by decide), n_lt (by omega) (by decide)]
theorem m161w (hW : WF (I 230)) : am_cal (d + 1) 161 [.ref 229] (mS I J) = some (some (.int (if okR (I 230) then nI 1 else nI 0)), mS I J) := by
  rw [m161]
  simp only [okR_i hW]
theorem m163 (hW : WF (I 230)) : am_cal (d + 3) 163 [.ref 229] (mS I J) = some (some (.int (v_born (I 230))), mS (wR I (tr_born (I 230))) J) := by
  have m9e : Int32.ofInt (-9) = m9 := rfl
  rw [c_163 lc_229, m161w hW, bI_s]
  unfold v_born tr_born
  by_cases h : okR (I 230)
  · rw [if_pos h, if_pos h, if_pos h, if_neg (by decide), m9e, m162 h.1 h.2 hW.nP.2 hW.nE.2, bI_s]
  · rw [if_neg h, if_neg h, if_neg h, if_pos nI_0, wR_I]
theorem m164 (hW : WF (I 230)) (h : okR (I 230)) : am_cal (d + 3) 164 [.ref 229, .int x, .int y, .int z, .int u, .int v] (mS I J) = some (some (.int (nI (nP (I 230)))), mS (wR I (cpS (I 230) x y z u v)) J) := by
  have m9e : Int32.ofInt (-9) = m9 := rfl
  have h12 := h.1
  have b0 : nI 10 + nI 10 * nI (nP (I 230)) = nI (10 + 10 * nP (I 230)) := by rw [pk_mul, nI_add]
  have ad : ∀ j, nI (10 + 10 * nP (I 230)) + nI j = nI (10 + 10 * nP (I 230) + j) := fun j => nI_add _ _
  have i5c : (nI (10 + 10 * nP (I 230) + 5)).toNatClampNeg = 10 + 10 * nP (I 230) + 5 := nI_clamp (by omega)
  have i5z : (nI (10 + 10 * nP (I 230) + 5) < 0) = False := n_ge0 (by omega)
  have i5l : (546 ≤ 10 + 10 * nP (I 230) + 5) = False := n_lef (by omega)
  have i6c : (nI (10 + 10 * nP (I 230) + 6)).toNatClampNeg = 10 + 10 * nP (I 230) + 6 := nI_clamp (by omega)
  have i6z : (nI (10 + 10 * nP (I 230) + 6) < 0) = False := n_ge0 (by omega)
  have i6l : (546 ≤ 10 + 10 * nP (I 230) + 6) = False := n_lef (by omega)
  have i8c : (nI (10 + 10 * nP (I 230) + 8)).toNatClampNeg = 10 + 10 * nP (I 230) + 8 := nI_clamp (by omega)
  have i8z : (nI (10 + 10 * nP (I 230) + 8) < 0) = False := n_ge0 (by omega)
  have i8l : (546 ≤ 10 + 10 * nP (I 230) + 8) = False := n_lef (by omega)
  have hm := m162 (d := d) (J := J) (sort := nI 1) (kind := y) (frm := x) (also := m9) h.1 h.2 hW.nP.2 hW.nE.2
  rw [c_164 lc_229, m9e, hm, bI_s]
  unfold cpS
  generalize hc : coS (I 230) (nI 1) y x m9 = t
  by_cases hy : y = nI 3 <;> by_cases hv : v = 0 <;> simp only [hy, hv, b0, ad, i5c, i5z, i5l, i6c, i6z, i6l, i8c, i8z, i8l, wI_R, wR_r, wR_wR, nn_0_1, nn_0_2, nn_0_3, nn_0_4, nn_0_5, nn_0_6, nn_0_7, nn_0_8, nn_1_0, nn_1_2, nn_1_3, nn_1_4, nn_1_5, nn_1_6, nn_1_7, nn_1_8, nn_2_0, nn_2_1, nn_2_3, nn_2_4, nn_2_5, nn_2_6, nn_2_7, nn_2_8, nn_3_0, nn_3_1, nn_3_2, nn_3_4, nn_3_5, nn_3_6, nn_3_7, nn_3_8, nn_4_0, nn_4_1, nn_4_2, nn_4_3, nn_4_5, nn_4_6, nn_4_7, nn_4_8, nn_5_0, nn_5_1, nn_5_2, nn_5_3, nn_5_4, nn_5_6, nn_5_7, nn_5_8, nn_6_0, nn_6_1, nn_6_2, nn_6_3, nn_6_4, nn_6_5, nn_6_7, nn_6_8, nn_7_0, nn_7_1, nn_7_2, nn_7_3, nn_7_4, nn_7_5, nn_7_6, nn_7_8, nn_8_0, nn_8_1, nn_8_2, nn_8_3, nn_8_4, nn_8_5, nn_8_6, nn_8_7, nq_0, nq_1, nq_2, nq_3, nq_4, nq_5, nq_6, nq_7, nq_8, lc_229, lr_229_0, lc_230, ll_230, bq_s, mS_c, mS_l, mS_r, mS_i, mS_j, mS_pi, mS_pj, lt_st, bq_s, bV_s, bI_s, bJ_s, bA_s, nz_0, nc_0, nz_1, nc_1, nz_2, nc_2, nz_3, nc_3, nz_4, nc_4, nz_5, nc_5, nz_6, nc_6, nz_7, nc_7, nz_8, nc_8, nz_9, nc_9, nz_10, nc_10, nz_11, nc_11, nz_12, nc_12, if_true, if_false, eq_self, true_and, and_true, false_or, or_false, true_or, or_true, false_and, and_false, not_true, not_false_eq_true, ne_eq, ite_self, ite_not, ↓reduceIte]
theorem m165 (hW : WF (I 230)) : am_cal (d + 4) 165 [.ref 229, .int x, .int y, .int z, .int u, .int v] (mS I J) = some (some (.int (v_copied (I 230) x y z u)), mS (wR I (tr_copied (I 230) x y z u v)) J) := by
  have h12 := hW.nP.1
  have bad : ¬ okCp (I 230) x y z u → some (some (Value.int (Int32.ofInt (-1))), mS I J) = some (some (.int (v_copied (I 230) x y z u)), mS (wR I (tr_copied (I 230) x y z u v)) J) := fun hn => by
    unfold v_copied tr_copied
    rw [if_neg hn, if_neg hn, wR_I]
  have l22 : isP (I 230) x → (y = nI 2 ∨ y = nI 3 ∨ y = nI 5) → (y = nI 3 → ¬ z < nI 1 ∧ ¬ nI 3 < z) → am_X (am_cal (d + 3)) 165 22 [.ref 229, .int x, .int y, .int z, .int u, .int v] [] (mS I J) = some (some (.int (v_copied (I 230) x y z u)), mS (wR I (tr_copied (I 230) x y z u v)) J) := by
    intro hx hy hz
    rw [e_165_22]
    simp only [n_lef (show 0 < 546 by decide), m151h, lc_229, lr_229_0, lc_230, ll_230, bq_s, mS_c, mS_l, mS_r, mS_i, mS_j, mS_pi, mS_pj, lt_st, bq_s, bV_s, bI_s, bJ_s, bA_s, nz_0, nc_0, nz_1, nc_1, nz_2, nc_2, nz_3, nc_3, nz_4, nc_4, nz_5, nc_5, nz_6, nc_6, nz_7, nc_7, nz_8, nc_8, nz_9, nc_9, nz_10, nc_10, nz_11, nc_11, nz_12, nc_12, if_true, if_false, eq_self, true_and, and_true, false_or, or_false, true_or, or_true, false_and, and_false, not_true, not_false_eq_true, ne_eq, ite_self, ite_not, ↓reduceIte]
    by_cases hu : ¬ u < 0 ∧ ¬ I 230 0 < u
    · have hok : okCp (I 230) x y z u := ⟨hx, hy, hz, hu⟩
      rw [if_pos hu, if_neg (by decide)]
      obtain ⟨p, hp, rfl⟩ := isP_n hW hx
      rw [m154 (by omega), bI_s]
      unfold v_copied tr_copied
      rw [if_pos hok, if_pos hok, nI_clamp (by omega)]
      by_cases ha : isAw (I 230) p
      · rw [if_pos ha, if_pos ha, if_pos ha, if_neg (by decide), m161w hW, bI_s]
        by_cases hr : okR (I 230)
        · rw [if_pos hr, if_pos hr, if_pos hr, if_neg (by decide), m164 hW hr, bI_s]
        · rw [if_neg hr, if_neg hr, if_neg hr, if_pos nI_0, wR_I]
      · rw [if_neg ha, if_neg ha, if_neg ha, if_pos nI_0, wR_I]
    · rw [if_neg hu, if_pos nI_0]
      exact bad fun h => hu h.2.2.2
  rw [c_165 lc_229, m153 hW, bI_s]
  by_cases hx : isP (I 230) x
  · rw [if_pos hx, if_neg (by decide)]
    have l13 : (y = nI 2 ∨ y = nI 3 ∨ y = nI 5) → am_X (am_cal (d + 3)) 165 13 [.ref 229, .int x, .int y, .int z, .int u, .int v] [] (mS I J) = some (some (.int (v_copied (I 230) x y z u)), mS (wR I (tr_copied (I 230) x y z u v)) J) := by
      intro hy
      rw [e_165_13]
      by_cases h3 : y = nI 3
      · rw [if_pos h3, m151 (by decide) (by decide), bI_s]
        by_cases hz : ¬ z < nI 1 ∧ ¬ nI 3 < z
        · rw [if_pos hz, if_neg (by decide)]
          exact l22 hx hy fun _ => hz
        · rw [if_neg hz, if_pos nI_0]
          exact bad fun h => hz (h.2.2.1 h3)
      · rw [if_neg h3]
        exact l22 hx hy fun h => absurd h h3
    by_cases h2 : y = nI 2
    · rw [if_pos h2]; exact l13 (Or.inl h2)
    · rw [if_neg h2]
      by_cases h3 : y = nI 3
      · rw [if_pos h3]; exact l13 (Or.inr (Or.inl h3))
      · rw [if_neg h3]
        by_cases h5 : y = nI 5
        · rw [if_pos h5]; exact l13 (Or.inr (Or.inr h5))
        · rw [if_neg h5]
          exact bad fun h => by rcases h.2.1 with h | h | h <;> contradiction
  · rw [if_neg hx, if_pos nI_0]
    exact bad fun h => hx h.1
theorem nE_set (hk : k ≠ 2) : nE (rset s k v) = nE s := by unfold nE; rw [rset_n (Ne.symm hk)]
theorem E18 (hW : WF s) : (s 2 = nI 18) = ¬ nE s < 18 := by
  have h18 := hW.nE.1
  rw [hW.nE.2, n_eq (by omega) (by decide)]
  exact propext ⟨fun h => by omega, fun h => by omega⟩
theorem m159k (hW : WF (I 230)) (hE : nE (I 230) < 18) {t : Int32} (hp : p < 12) : am_cal (d + 1) 159 [.ref 229, .int sort, .int x] (mS (wR I (rset (I 230) (10 + 10 * p) t)) J) = some (none, mS (wR I (evS (rset (I 230) (10 + 10 * p) t) sort x)) J) := by
  have h2 := hW.nE.2
  have hn : nE (rset (I 230) (10 + 10 * p) t) = nE (I 230) := nE_set (by omega)
  have := m159 (d := d) (I := wR I (rset (I 230) (10 + 10 * p) t)) (J := J) (sort := sort) (x := x) (by rw [wR_r, hn]; exact hE) (by rw [wR_r, hn, rset_n (by omega)]; exact h2)
  rw [wR_r, wR_wR] at this
  exact this
theorem m166 (hW : WF (I 230)) : am_cal (d + 3) 166 [.ref 229, .int x] (mS I J) = some (some (.int (v_wake (I 230) x)), mS (wR I (tr_wake (I 230) x)) J) := by
  have h12 := hW.nP.1
  rw [c_166 lc_229, m153 hW, bI_s]
  unfold v_wake tr_wake
  by_cases hx : isP (I 230) x
  · rw [if_pos hx, if_pos hx, if_pos hx, if_neg (by decide)]
    obtain ⟨p, hp, rfl⟩ := isP_n hW hx
    rw [m152 (by omega) (by decide), bI_s, nI_clamp (show p < 2 ^ 31 by omega)]
    have b0 : nI 10 + nI 10 * nI p = nI (10 + 10 * p) := by rw [pk_mul, nI_add]
    have b1 : nI (10 + 10 * p) + nI 0 = nI (10 + 10 * p) := nI_add _ _
    have i0c : (nI (10 + 10 * p)).toNatClampNeg = 10 + 10 * p := nI_clamp (by omega)
    have i0z : (nI (10 + 10 * p) < 0) = False := n_ge0 (by omega)
    have i0l : (546 ≤ 10 + 10 * p) = False := n_lef (by omega)
    by_cases h5 : pF (I 230) p 0 = nI 5
    · rw [if_pos h5, if_pos h5, if_pos h5]
      by_cases hE : nE (I 230) < 18
      · have hm := m159k (d := d + 1) (J := J) (sort := nI 2) (x := nI p) (t := nI 2) (p := p) hW hE (by omega)
        have e18 : (I 230 2 = nI 18) = False := (E18 hW).trans (eq_false (fun h => h hE))
        rw [if_pos hE, if_pos hE]
        simp only [n_lef (show 2 < 546 by decide), e18, b0, b1, i0c, i0z, i0l, wI_R, wR_r, hm, lc_229, lr_229_0, lc_230, ll_230, bq_s, mS_c, mS_l, mS_r, mS_i, mS_j, mS_pi, mS_pj, lt_st, bq_s, bV_s, bI_s, bJ_s, bA_s, nz_0, nc_0, nz_1, nc_1, nz_2, nc_2, nz_3, nc_3, nz_4, nc_4, nz_5, nc_5, nz_6, nc_6, nz_7, nc_7, nz_8, nc_8, nz_9, nc_9, nz_10, nc_10, nz_11, nc_11, nz_12, nc_12, if_true, if_false, eq_self, true_and, and_true, false_or, or_false, true_or, or_true, false_and, and_false, not_true, not_false_eq_true, ne_eq, ite_self, ite_not, ↓reduceIte]
        rfl
      · have e18 : (I 230 2 = nI 18) = True := (E18 hW).trans (eq_true hE)
        rw [if_neg hE, if_neg hE, wR_I]
        simp only [n_lef (show 2 < 546 by decide), e18, lc_229, lr_229_0, lc_230, ll_230, bq_s, mS_c, mS_l, mS_r, mS_i, mS_j, mS_pi, mS_pj, lt_st, bq_s, bV_s, bI_s, bJ_s, bA_s, nz_0, nc_0, nz_1, nc_1, nz_2, nc_2, nz_3, nc_3, nz_4, nc_4, nz_5, nc_5, nz_6, nc_6, nz_7, nc_7, nz_8, nc_8, nz_9, nc_9, nz_10, nc_10, nz_11, nc_11, nz_12, nc_12, if_true, if_false, eq_self, true_and, and_true, false_or, or_false, true_or, or_true, false_and, and_false, not_true, not_false_eq_true, ne_eq, ite_self, ite_not, ↓reduceIte]
    · rw [if_neg h5, if_neg h5, if_neg h5, wR_I]
  · rw [if_neg hx, if_neg hx, if_neg hx, if_pos nI_0, wR_I]
theorem m169 (hW : WF (I 230)) (hE : nE (I 230) < 18) (hp : p < 12) : am_cal (d + 2) 169 [.ref 229, .int (nI p)] (mS I J) = some (none, mS (wR I (enS (I 230) p)) J) := by
  have b0 : nI 10 + nI 10 * nI p = nI (10 + 10 * p) := by rw [pk_mul, nI_add]
  have b1 : nI (10 + 10 * p) + nI 0 = nI (10 + 10 * p) := nI_add _ _
  have i0c : (nI (10 + 10 * p)).toNatClampNeg = 10 + 10 * p := nI_clamp (by omega)
  have i0z : (nI (10 + 10 * p) < 0) = False := n_ge0 (by omega)
  have i0l : (546 ≤ 10 + 10 * p) = False := n_lef (by omega)
  have hm := m159k (d := d) (J := J) (sort := nI 4) (x := nI p) (t := nI 6) (p := p) hW hE (by omega)
  rw [c_169 lc_229]
  simp only [b0, b1, i0c, i0z, i0l, wI_R, wR_r, hm, lc_229, lr_229_0, lc_230, ll_230, bq_s, mS_c, mS_l, mS_r, mS_i, mS_j, mS_pi, mS_pj, lt_st, bq_s, bV_s, bI_s, bJ_s, bA_s, nz_0, nc_0, nz_1, nc_1, nz_2, nc_2, nz_3, nc_3, nz_4, nc_4, nz_5, nc_5, nz_6, nc_6, nz_7, nc_7, nz_8, nc_8, nz_9, nc_9, nz_10, nc_10, nz_11, nc_11, nz_12, nc_12, if_true, if_false, eq_self, true_and, and_true, false_or, or_false, true_or, or_true, false_and, and_false, not_true, not_false_eq_true, ne_eq, ite_self, ite_not, ↓reduceIte]
  rfl
theorem m170 (hW : WF (I 230)) (hWe : ∀ p, p < nP (I 230) → ¬ pF (I 230) p 0 = nI 6 → nE (I 230) < 18 → WF (enS (I 230) p)) : am_cal (d + 4) 170 [.ref 229, .int x] (mS I J) = some (some (.int (v_end (I 230) x)), mS (wR I (tr_end (I 230) x)) J) := by
  have h12 := hW.nP.1
  rw [c_170 lc_229, m153 hW, bI_s]
  unfold v_end tr_end
  by_cases hx : isP (I 230) x
  · rw [if_pos hx, if_pos hx, if_pos hx, if_neg (by decide)]
    obtain ⟨p, hp, rfl⟩ := isP_n hW hx
    rw [m152 (by omega) (by decide), bI_s, nI_clamp (show p < 2 ^ 31 by omega)]
    by_cases h6 : pF (I 230) p 0 = nI 6
    · rw [if_pos h6, if_pos h6, if_pos h6, wR_I]
    · rw [if_neg h6, if_neg h6, if_neg h6]
      by_cases hE : nE (I 230) < 18
      · have e18 : (I 230 2 = nI 18) = False := (E18 hW).trans (eq_false (fun h => h hE))
        have hm := m169 (d := d + 1) (J := J) (p := p) hW hE (by omega)
        have hk := m156 (d := d) (I := wR I (enS (I 230) p)) (J := J) (by rw [wR_r]; exact hWe p hp h6 hE)
        rw [wR_r] at hk
        rw [if_pos hE, if_pos hE]
        simp only [n_lef (show 2 < 546 by decide), e18, hm, hk, lc_229, lr_229_0, lc_230, ll_230, bq_s, mS_c, mS_l, mS_r, mS_i, mS_j, mS_pi, mS_pj, lt_st, bq_s, bV_s, bI_s, bJ_s, bA_s, nz_0, nc_0, nz_1, nc_1, nz_2, nc_2, nz_3, nc_3, nz_4, nc_4, nz_5, nc_5, nz_6, nc_6, nz_7, nc_7, nz_8, nc_8, nz_9, nc_9, nz_10, nc_10, nz_11, nc_11, nz_12, nc_12, if_true, if_false, eq_self, true_and, and_true, false_or, or_false, true_or, or_true, false_and, and_false, not_true, not_false_eq_true, ne_eq, ite_self, ite_not, ↓reduceIte]
      · have e18 : (I 230 2 = nI 18) = True := (E18 hW).trans (eq_true hE)
        rw [if_neg hE, if_neg hE, wR_I]
        simp only [n_lef (show 2 < 546 by decide), e18, lc_229, lr_229_0, lc_230, ll_230, bq_s, mS_c, mS_l, mS_r, mS_i, mS_j, mS_pi, mS_pj, lt_st, bq_s, bV_s, bI_s, bJ_s, bA_s, nz_0, nc_0, nz_1, nc_1, nz_2, nc_2, nz_3, nc_3, nz_4, nc_4, nz_5, nc_5, nz_6, nc_6, nz_7, nc_7, nz_8, nc_8, nz_9, nc_9, nz_10, nc_10, nz_11, nc_11, nz_12, nc_12, if_true, if_false, eq_self, true_and, and_true, false_or, or_false, true_or, or_true, false_and, and_false, not_true, not_false_eq_true, ne_eq, ite_self, ite_not, ↓reduceIte]
  · rw [if_neg hx, if_neg hx, if_neg hx, if_pos nI_0, wR_I]
theorem m167 (hW : WF (I 230)) (h : okR (I 230)) (hp : p < 12) (hq : q < 12) : am_cal (d + 3) 167 [.ref 229, .int (nI p), .int (nI q)] (mS I J) = some (some (.int (nI (nP (I 230)))), mS (wR I (joS (I 230) p q)) J) := by
  have b0 : ∀ p, nI 10 + nI 10 * nI p = nI (10 + 10 * p) := fun p => by rw [pk_mul, nI_add]
  have ad : ∀ p j, nI (10 + 10 * p) + nI j = nI (10 + 10 * p + j) := fun p j => nI_add _ _
  have ez : ∀ p, nI (10 + 10 * p + 0) = nI (10 + 10 * p) := fun _ => rfl
  have i0c : (nI (10 + 10 * p)).toNatClampNeg = 10 + 10 * p := nI_clamp (by omega)
  have i0z : (nI (10 + 10 * p) < 0) = False := n_ge0 (by omega)
  have i0l : (546 ≤ 10 + 10 * p) = False := n_lef (by omega)
  have i7c : (nI (10 + 10 * p + 7)).toNatClampNeg = 10 + 10 * p + 7 := nI_clamp (by omega)
  have i7z : (nI (10 + 10 * p + 7) < 0) = False := n_ge0 (by omega)
  have i7l : (546 ≤ 10 + 10 * p + 7) = False := n_lef (by omega)
  have k0c : (nI (10 + 10 * q)).toNatClampNeg = 10 + 10 * q := nI_clamp (by omega)
  have k0z : (nI (10 + 10 * q) < 0) = False := n_ge0 (by omega)
  have k0l : (546 ≤ 10 + 10 * q) = False := n_lef (by omega)
  have k7c : (nI (10 + 10 * q + 7)).toNatClampNeg = 10 + 10 * q + 7 := nI_clamp (by omega)
  have k7z : (nI (10 + 10 * q + 7) < 0) = False := n_ge0 (by omega)
  have k7l : (546 ≤ 10 + 10 * q + 7) = False := n_lef (by omega)
  have hm := m162 (d := d) (J := J) (sort := nI 3) (kind := nI 4) (frm := nI p) (also := nI q) h.1 h.2 hW.nP.2 hW.nE.2
  rw [c_167 lc_229, hm, bI_s]
  unfold joS
  generalize hc : coS (I 230) (nI 3) (nI 4) (nI p) (nI q) = t
  simp only [b0, ad, ez, i0c, i0z, i0l, i7c, i7z, i7l, k0c, k0z, k0l, k7c, k7z, k7l, wI_R, wR_r, wR_wR, lc_229, lr_229_0, lc_230, ll_230, bq_s, mS_c, mS_l, mS_r, mS_i, mS_j, mS_pi, mS_pj, lt_st, bq_s, bV_s, bI_s, bJ_s, bA_s, nz_0, nc_0, nz_1, nc_1, nz_2, nc_2, nz_3, nc_3, nz_4, nc_4, nz_5, nc_5, nz_6, nc_6, nz_7, nc_7, nz_8, nc_8, nz_9, nc_9, nz_10, nc_10, nz_11, nc_11, nz_12, nc_12, if_true, if_false, eq_self, true_and, and_true, false_or, or_false, true_or, or_true, false_and, and_false, not_true, not_false_eq_true, ne_eq, ite_self, ite_not, ↓reduceIte]
theorem m168 (hW : WF (I 230)) : am_cal (d + 4) 168 [.ref 229, .int x, .int y] (mS I J) = some (some (.int (v_join (I 230) x y)), mS (wR I (tr_join (I 230) x y)) J) := by
  have h12 := hW.nP.1
  have bad : ¬ okJo (I 230) x y → some (some (Value.int (Int32.ofInt (-1))), mS I J) = some (some (.int (v_join (I 230) x y)), mS (wR I (tr_join (I 230) x y)) J) := fun hn => by
    unfold v_join tr_join
    rw [if_neg hn, if_neg hn, wR_I]
  rw [c_168 lc_229, m153 hW, bI_s]
  by_cases hx : isP (I 230) x
  · rw [if_pos hx, if_neg (by decide), m153 hW, bI_s]
    by_cases hy : isP (I 230) y
    · rw [if_pos hy, if_neg (by decide)]
      by_cases hxy : x = y
      · rw [if_pos hxy]
        exact bad fun h => h.2.2 hxy
      · rw [if_neg hxy]
        have hok : okJo (I 230) x y := ⟨hx, hy, hxy⟩
        unfold v_join tr_join
        rw [if_pos hok, if_pos hok]
        obtain ⟨p, hp, rfl⟩ := isP_n hW hx
        obtain ⟨q, hq, rfl⟩ := isP_n hW hy
        rw [m154 (by omega), bI_s, nI_clamp (show p < 2 ^ 31 by omega), nI_clamp (show q < 2 ^ 31 by omega)]
        by_cases ha : isAw (I 230) p
        · rw [if_pos ha, if_neg (by decide), m154 (by omega), bI_s]
          by_cases hb : isAw (I 230) q
          · have hab : isAw (I 230) p ∧ isAw (I 230) q := ⟨ha, hb⟩
            rw [if_pos hb, if_neg (by decide), if_pos hab, if_pos hab, m161w hW, bI_s]
            by_cases hr : okR (I 230)
            · rw [if_pos hr, if_pos hr, if_pos hr, if_neg (by decide), m167 hW hr (by omega) (by omega), bI_s]
            · rw [if_neg hr, if_neg hr, if_neg hr, if_pos nI_0, wR_I]
          · have hab : ¬ (isAw (I 230) p ∧ isAw (I 230) q) := fun h => hb h.2
            rw [if_neg hb, if_pos nI_0, if_neg hab, if_neg hab, wR_I]
        · have hab : ¬ (isAw (I 230) p ∧ isAw (I 230) q) := fun h => ha h.1
          rw [if_neg ha, if_pos nI_0, if_neg hab, if_neg hab, wR_I]
    · rw [if_neg hy, if_pos nI_0]
      exact bad fun h => hy h.2.1
  · rw [if_neg hx, if_pos nI_0]
    exact bad fun h => hx h.1
/-! claims, deeds, seed -/
def clS (s : Rw) (sort p worth : Int32) : Rw := rset (rset (rset (rset (rset (rset s (184 + 5 * nC s) sort) (184 + 5 * nC s + 1) p) (184 + 5 * nC s + 2) worth) (184 + 5 * nC s + 3) (s 0)) (184 + 5 * nC s + 4) (s 2)) 3 (nI (nC s + 1))
abbrev okCl (s : Rw) (x y z : Int32) : Prop := i2 x ∧ isP s y ∧ ¬ z < nI 1 ∧ ¬ nI 9999 < z
def v_claim (s : Rw) (x y z : Int32) : Int32 := if okCl s x y z then (if isAw s y.toNatClampNeg then (if nC s < 12 then nI (nC s) else Int32.ofInt (-2)) else Int32.ofInt (-4)) else Int32.ofInt (-1)
def tr_claim (s : Rw) (x y z : Int32) : Rw := if okCl s x y z then (if isAw s y.toNatClampNeg then (if nC s < 12 then clS s x y z else s) else s) else s
theorem m201 (hC : nC (I 230) < 12) (h3 : I 230 3 = nI (nC (I 230))) : am_cal (d + 1) 201 [.ref 229, .int x, .int y, .int z] (mS I J) = some (some (.int (nI (nC (I 230)))), mS (wR I (clS (I 230) x y z)) J) := by
  unfold clS
  generalize hn : nC (I 230) = n at hC h3
  have b0 : nI 184 + nI 5 * nI n = nI (184 + 5 * n) := by rw [pk_mul, nI_add]
  have ad : ∀ j, nI (184 + 5 * n) + nI j = nI (184 + 5 * n + j) := fun j => nI_add _ _
  have i0c : (nI (184 + 5 * n)).toNatClampNeg = 184 + 5 * n := nI_clamp (by omega)
  have i0z : (nI (184 + 5 * n) < 0) = False := n_ge0 (by omega)
  have i0l : (546 ≤ 184 + 5 * n) = False := n_lef (by omega)
  have i1c : (nI (184 + 5 * n + 1)).toNatClampNeg = 184 + 5 * n + 1 := nI_clamp (by omega)
  have i1z : (nI (184 + 5 * n + 1) < 0) = False := n_ge0 (by omega)
  have i1l : (546 ≤ 184 + 5 * n + 1) = False := n_lef (by omega)
  have i2c : (nI (184 + 5 * n + 2)).toNatClampNeg = 184 + 5 * n + 2 := nI_clamp (by omega)
  have i2z : (nI (184 + 5 * n + 2) < 0) = False := n_ge0 (by omega)
  have i2l : (546 ≤ 184 + 5 * n + 2) = False := n_lef (by omega)
  have i3c : (nI (184 + 5 * n + 3)).toNatClampNeg = 184 + 5 * n + 3 := nI_clamp (by omega)
  have i3z : (nI (184 + 5 * n + 3) < 0) = False := n_ge0 (by omega)
  have i3l : (546 ≤ 184 + 5 * n + 3) = False := n_lef (by omega)
  have i4c : (nI (184 + 5 * n + 4)).toNatClampNeg = 184 + 5 * n + 4 := nI_clamp (by omega)
  have i4z : (nI (184 + 5 * n + 4) < 0) = False := n_ge0 (by omega)
  have i4l : (546 ≤ 184 + 5 * n + 4) = False := n_lef (by omega)
  have q00 : ∀ (t : Rw) (v : Int32), rset t (184 + 5 * n) v 0 = t 0 := fun _ _ => rset_n (by omega)
  have q01 : ∀ (t : Rw) (v : Int32), rset t (184 + 5 * n) v 1 = t 1 := fun _ _ => rset_n (by omega)
  have q02 : ∀ (t : Rw) (v : Int32), rset t (184 + 5 * n) v 2 = t 2 := fun _ _ => rset_n (by omega)
  have q10 : ∀ (t : Rw) (v : Int32), rset t (184 + 5 * n + 1) v 0 = t 0 := fun _ _ => rset_n (by omega)
  have q11 : ∀ (t : Rw) (v : Int32), rset t (184 + 5 * n + 1) v 1 = t 1 := fun _ _ => rset_n (by omega)
  have q12 : ∀ (t : Rw) (v : Int32), rset t (184 + 5 * n + 1) v 2 = t 2 := fun _ _ => rset_n (by omega)
  have q20 : ∀ (t : Rw) (v : Int32), rset t (184 + 5 * n + 2) v 0 = t 0 := fun _ _ => rset_n (by omega)
  have q21 : ∀ (t : Rw) (v : Int32), rset t (184 + 5 * n + 2) v 1 = t 1 := fun _ _ => rset_n (by omega)
  have q22 : ∀ (t : Rw) (v : Int32), rset t (184 + 5 * n + 2) v 2 = t 2 := fun _ _ => rset_n (by omega)
  have q30 : ∀ (t : Rw) (v : Int32), rset t (184 + 5 * n + 3) v 0 = t 0 := fun _ _ => rset_n (by omega)
  have q31 : ∀ (t : Rw) (v : Int32), rset t (184 + 5 * n + 3) v 1 = t 1 := fun _ _ => rset_n (by omega)
  have q32 : ∀ (t : Rw) (v : Int32), rset t (184 + 5 * n + 3) v 2 = t 2 := fun _ _ => rset_n (by omega)
  have q40 : ∀ (t : Rw) (v : Int32), rset t (184 + 5 * n + 4) v 0 = t 0 := fun _ _ => rset_n (by omega)
  have q41 : ∀ (t : Rw) (v : Int32), rset t (184 + 5 * n + 4) v 1 = t 1 := fun _ _ => rset_n (by omega)
  have q42 : ∀ (t : Rw) (v : Int32), rset t (184 + 5 * n + 4) v 2 = t 2 := fun _ _ => rset_n (by omega)
  have t3 : ∀ (t : Rw) (v : Int32) (k : Nat), 184 + 5 * n ≤ k → rset t k v 3 = t 3 := fun _ _ _ _ => rset_n (by omega)
  have u0 : ∀ (t : Rw) (v : Int32), rset t (184 + 5 * n) v 3 = t 3 := fun t v => t3 t v _ (by omega)
  have u1 : ∀ (t : Rw) (v : Int32), rset t (184 + 5 * n + 1) v 3 = t 3 := fun t v => t3 t v _ (by omega)
  have u2 : ∀ (t : Rw) (v : Int32), rset t (184 + 5 * n + 2) v 3 = t 3 := fun t v => t3 t v _ (by omega)
  have u3 : ∀ (t : Rw) (v : Int32), rset t (184 + 5 * n + 3) v 3 = t 3 := fun t v => t3 t v _ (by omega)
  have u4 : ∀ (t : Rw) (v : Int32), rset t (184 + 5 * n + 4) v 3 = t 3 := fun t v => t3 t v _ (by omega)
  have e3 : ∀ (t : Rw) (v : Int32), rset t 3 v 3 = v := fun _ _ => rset_e
  have hp : nI (n + 1) - nI 1 = nI n := n_pred
  rw [c_201 lc_229]
  simp only [h3, b0, ad, i0c, i0z, i0l, i1c, i1z, i1l, i2c, i2z, i2l, i3c, i3z, i3l, i4c, i4z, i4l, wI_R, wR_r, wR_wR, q00, q01, q02, q10, q11, q12, q20, q21, q22, q30, q31, q32, q40, q41, q42, u0, u1, u2, u3, u4, e3, n_lef (show 2 < 546 by decide), n_lef (show 3 < 546 by decide), n_lef (show 0 < 546 by decide), nI_add, hp, lc_229, lr_229_0, lc_230, ll_230, bq_s, mS_c, mS_l, mS_r, mS_i, mS_j, mS_pi, mS_pj, lt_st, bq_s, bV_s, bI_s, bJ_s, bA_s, nz_0, nc_0, nz_1, nc_1, nz_2, nc_2, nz_3, nc_3, nz_4, nc_4, nz_5, nc_5, nz_6, nc_6, nz_7, nc_7, nz_8, nc_8, nz_9, nc_9, nz_10, nc_10, nz_11, nc_11, nz_12, nc_12, if_true, if_false, eq_self, true_and, and_true, false_or, or_false, true_or, or_true, false_and, and_false, not_true, not_false_eq_true, ne_eq, ite_self, ite_not, ↓reduceIte]
theorem m202 (hW : WF (I 230)) : am_cal (d + 3) 202 [.ref 229, .int x, .int y, .int z] (mS I J) = some (some (.int (v_claim (I 230) x y z)), mS (wR I (tr_claim (I 230) x y z)) J) := by
  have h12 := hW.nP.1
  have hc12 := hW.nC.1
  have bad : ¬ okCl (I 230) x y z → some (some (Value.int (Int32.ofInt (-1))), mS I J) = some (some (.int (v_claim (I 230) x y z)), mS (wR I (tr_claim (I 230) x y z)) J) := fun hn => by
    unfold v_claim tr_claim
    rw [if_neg hn, if_neg hn, wR_I]
  rw [c_202 lc_229, m151 (by decide) (by decide), bI_s]
  by_cases hx : ¬ x < nI 0 ∧ ¬ nI 1 < x
  · rw [if_pos hx, if_neg (by decide), m153 hW, bI_s]
    rw [i2_in] at hx
    by_cases hy : isP (I 230) y
    · rw [if_pos hy, if_neg (by decide), m151 (by decide) (by decide), bI_s]
      by_cases hz : ¬ z < nI 1 ∧ ¬ nI 9999 < z
      · rw [if_pos hz, if_neg (by decide)]
        have hok : okCl (I 230) x y z := ⟨hx, hy, hz⟩
        unfold v_claim tr_claim
        rw [if_pos hok, if_pos hok]
        obtain ⟨p, hp, rfl⟩ := isP_n hW hy
        rw [m154 (by omega), bI_s, nI_clamp (show p < 2 ^ 31 by omega)]
        by_cases ha : isAw (I 230) p
        · rw [if_pos ha, if_pos ha, if_pos ha, if_neg (by decide)]
          by_cases hC : nC (I 230) < 12
          · have e12 : (I 230 3 = nI 12) = False := eq_false (by rw [hW.nC.2, n_eq (by omega) (by decide)]; omega)
            rw [if_pos hC, if_pos hC]
            simp only [n_lef (show 3 < 546 by decide), e12, m201 hC hW.nC.2, lc_229, lr_229_0, lc_230, ll_230, bq_s, mS_c, mS_l, mS_r, mS_i, mS_j, mS_pi, mS_pj, lt_st, bq_s, bV_s, bI_s, bJ_s, bA_s, nz_0, nc_0, nz_1, nc_1, nz_2, nc_2, nz_3, nc_3, nz_4, nc_4, nz_5, nc_5, nz_6, nc_6, nz_7, nc_7, nz_8, nc_8, nz_9, nc_9, nz_10, nc_10, nz_11, nc_11, nz_12, nc_12, if_true, if_false, eq_self, true_and, and_true, false_or, or_false, true_or, or_true, false_and, and_false, not_true, not_false_eq_true, ne_eq, ite_self, ite_not, ↓reduceIte]
          · have e12 : (I 230 3 = nI 12) = True := eq_true (by rw [hW.nC.2, n_eq (by omega) (by decide)]; omega)
            rw [if_neg hC, if_neg hC, wR_I]
            simp only [n_lef (show 3 < 546 by decide), e12, lc_229, lr_229_0, lc_230, ll_230, bq_s, mS_c, mS_l, mS_r, mS_i, mS_j, mS_pi, mS_pj, lt_st, bq_s, bV_s, bI_s, bJ_s, bA_s, nz_0, nc_0, nz_1, nc_1, nz_2, nc_2, nz_3, nc_3, nz_4, nc_4, nz_5, nc_5, nz_6, nc_6, nz_7, nc_7, nz_8, nc_8, nz_9, nc_9, nz_10, nc_10, nz_11, nc_11, nz_12, nc_12, if_true, if_false, eq_self, true_and, and_true, false_or, or_false, true_or, or_true, false_and, and_false, not_true, not_false_eq_true, ne_eq, ite_self, ite_not, ↓reduceIte]
        · rw [if_neg ha, if_neg ha, if_neg ha, if_pos nI_0, wR_I]
      · rw [if_neg hz, if_pos nI_0]
        exact bad fun h => hz h.2.2
    · rw [if_neg hy, if_pos nI_0]
      exact bad fun h => hy h.2.1
  · rw [if_neg hx, if_pos nI_0]
    exact bad fun h => hx (by rw [i2_in]; exact h.1)
theorem m239 : am_cal (d + 1) 239 [.ref 229, .int x] (mS I J) = some (some (.int (I 230 7)), mS (wR I (rset (I 230) 7 x)) J) := by
  rw [c_239 lc_229]
  simp only [n_lef (show 7 < 546 by decide), wI_R, lc_229, lr_229_0, lc_230, ll_230, bq_s, mS_c, mS_l, mS_r, mS_i, mS_j, mS_pi, mS_pj, lt_st, bq_s, bV_s, bI_s, bJ_s, bA_s, nz_0, nc_0, nz_1, nc_1, nz_2, nc_2, nz_3, nc_3, nz_4, nc_4, nz_5, nc_5, nz_6, nc_6, nz_7, nc_7, nz_8, nc_8, nz_9, nc_9, nz_10, nc_10, nz_11, nc_11, nz_12, nc_12, if_true, if_false, eq_self, true_and, and_true, false_or, or_false, true_or, or_true, false_and, and_false, not_true, not_false_eq_true, ne_eq, ite_self, ite_not, ↓reduceIte]
end F3s
