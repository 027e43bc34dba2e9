/-! ===== prove: the class ===== -/
def rwN (h : Nat → Nat) : Nat → Nat
  | 0 => 0
  | k + 1 => if h k = 0 then rwN h k else rwN h k + 1
/-- the rows that tell who has how much of a claim: who, and the share in lowest terms -/
def rwV (h : Nat → Nat) : Nat → Nat → Nat → Int64
  | 0, _, _ => 0
  | k + 1, m, i => if h k = 0 then rwV h k m i else if m = rwN h k then (if i = 0 then lN k else if i = 1 then low (h k) (nI 0) else low (h k) (nI 1)) else rwV h k m i
section H6s
variable {I I' : mI} {J : mJ} {s s' t : Rw} {w p q e c d k n g a b l m : Nat} {x y z u v sort key : Int32} {h : Nat → Nat}
theorem rwN_s : rwN h (k + 1) = if h k = 0 then rwN h k else rwN h k + 1 := rfl
theorem rwV_s {i : Nat} : rwV h (k + 1) m i = if h k = 0 then rwV h k m i else if m = rwN h k then (if i = 0 then lN k else if i = 1 then low (h k) (nI 0) else low (h k) (nI 1)) else rwV h k m i := rfl
theorem rwN_le : rwN h k ≤ k := by
  induction k with
  | zero => exact Nat.le_refl _
  | succ k ih =>
    rw [rwN_s]
    by_cases hh : h k = 0
    · rw [if_pos hh]; omega
    · rw [if_neg hh]; omega
theorem r_207 (hm : m < 12) : lyR 207 m = some (208 + m) := by
  rcases (show m = 0 ∨ m = 1 ∨ m = 2 ∨ m = 3 ∨ m = 4 ∨ m = 5 ∨ m = 6 ∨ m = 7 ∨ m = 8 ∨ m = 9 ∨ m = 10 ∨ m = 11 by omega) with rfl | rfl | rfl | rfl | rfl | rfl | rfl | rfl | rfl | rfl | rfl | rfl
  · exact lr_207_0
  · exact lr_207_1
  · exact lr_207_2
  · exact lr_207_3
  · exact lr_207_4
  · exact lr_207_5
  · exact lr_207_6
  · exact lr_207_7
  · exact lr_207_8
  · exact lr_207_9
  · exact lr_207_10
  · exact lr_207_11
theorem cl_208 (hm : m < 12) : lyC (208 + m) = 102 ∧ lyL (208 + m) = 3 := by
  rcases (show m = 0 ∨ m = 1 ∨ m = 2 ∨ m = 3 ∨ m = 4 ∨ m = 5 ∨ m = 6 ∨ m = 7 ∨ m = 8 ∨ m = 9 ∨ m = 10 ∨ m = 11 by omega) with rfl | rfl | rfl | rfl | rfl | rfl | rfl | rfl | rfl | rfl | rfl | rfl
  · exact ⟨lc_208, ll_208⟩
  · exact ⟨lc_209, ll_209⟩
  · exact ⟨lc_210, ll_210⟩
  · exact ⟨lc_211, ll_211⟩
  · exact ⟨lc_212, ll_212⟩
  · exact ⟨lc_213, ll_213⟩
  · exact ⟨lc_214, ll_214⟩
  · exact ⟨lc_215, ll_215⟩
  · exact ⟨lc_216, ll_216⟩
  · exact ⟨lc_217, ll_217⟩
  · exact ⟨lc_218, ll_218⟩
  · exact ⟨lc_219, ll_219⟩
theorem lN_z (hx : q < 2 ^ 60) : (lg_cmp (lN q) (lN 0) = 0) = (q = 0) := by
  rw [l_eq, LN_eq (by omega) (by decide)]
set_option maxHeartbeats 1000000 in
theorem e122 (hR : Rep I 1 s) (hW : WF s) (hh : HC J 191 h) (hb : ∀ p, p < 12 → h p < 2 ^ 45) : ∀ n k (I1 : mI) (J1 : mJ), k + n = nP s → (∀ a f, (a ≠ 0 ∨ f ≠ 18) → I1 a f = I a f) → I1 0 18 = nI (rwN h k) → (∀ a, a < 208 ∨ 220 ≤ a → J1 a = J a) → (∀ m, m < rwN h k → ∀ i, i < 3 → J1 (208 + m) i = rwV h k m i) → ∃ I' J', (∀ a f, (a ≠ 0 ∨ f ≠ 18) → I' a f = I a f) ∧ I' 0 18 = nI (rwN h (nP s)) ∧ (∀ a, a < 208 ∨ 220 ≤ a → J' a = J a) ∧ (∀ m, m < rwN h (nP s) → ∀ i, i < 3 → J' (208 + m) i = rwV h (nP s) m i) ∧ am_X (am_cal (d + 1)) 122 16 [.ref 0, .null, .int (nI k)] [] (mS I1 J1) = some (some (.int (nI (rwN h (nP s)))), mS I' J') := by
  have h12 := hW.nP.1
  intro n
  induction n with
  | zero =>
    intro k I1 J1 hk h1 h2 h3 h4
    have hk' : k = nP s := by omega
    subst hk'
    have h9 : I1 1 9 = nI (nP s) := by rw [h1 1 9 (Or.inl (by decide))]; exact hR.ppl.trans hW.nP.2
    refine ⟨I1, J1, h1, h2, h3, h4, ?_⟩
    rw [e_122_16]
    simp only [lc_0, lr_0_0, w_C W1, h9, h2, n_lt (show nP s < 2 ^ 31 by omega) (show nP s < 2 ^ 31 by omega), Nat.lt_irrefl, bq_s, mS_c, mS_l, mS_r, mS_i, mS_j, mS_pi, mS_pj, lt_st, bq_s, bV_s, bI_s, bJ_s, bA_s, nz_0, nc_0, nz_1, nc_1, nz_2, nc_2, nz_3, nc_3, nz_4, nc_4, nz_5, nc_5, nz_6, nc_6, nz_7, nc_7, nz_8, nc_8, nz_9, nc_9, nz_10, nc_10, nz_11, nc_11, nz_12, nc_12, if_true, if_false, eq_self, true_and, and_true, false_or, or_false, true_or, or_true, false_and, and_false, not_true, not_false_eq_true, ne_eq, ite_self, ite_not, ↓reduceIte, n_101, n_107, n_11]
  | succ n ih =>
    intro k I1 J1 hk h1 h2 h3 h4
    have hkn : k < nP s := by omega
    have hk12 : k < 12 := by omega
    have i0c : (nI (k)).toNatClampNeg = k := nI_clamp (by omega)
    have i0z : (nI (k) < 0) = False := n_ge0 (by omega)
    have i0l : (12 ≤ k) = False := n_lef (by omega)
    have h9 : I1 1 9 = nI (nP s) := by rw [h1 1 9 (Or.inl (by decide))]; exact hR.ppl.trans hW.nP.2
    have hj : J1 191 k = lN (h k) := by rw [h3 191 (Or.inl (by decide))]; exact hh k hk12
    have hb2 := hb k hk12
    rw [e_122_16]
    by_cases h0 : h k = 0
    · obtain ⟨I', J', b1, b2', b3, b4, b5⟩ := ih (k + 1) I1 J1 (by omega) h1 (by rw [rwN_s, if_pos h0]; exact h2) h3 (fun m hm i hi => by rw [rwV_s, if_pos h0]; rw [rwN_s, if_pos h0] at hm; exact h4 m hm i hi)
      refine ⟨I', J', b1, b2', b3, b4, ?_⟩
      simp only [lc_0, lr_0_0, lr_0_3, lc_190, lr_190_1, lc_191, ll_191, w_C W1, h9, n_lt (show k < 2 ^ 31 by omega) (show nP s < 2 ^ 31 by omega), eq_true hkn, i0c, i0z, i0l, hj, lN_z (show h k < 2 ^ 60 by omega), eq_true h0, nI_add, bq_s, mS_c, mS_l, mS_r, mS_i, mS_j, mS_pi, mS_pj, lt_st, bq_s, bV_s, bI_s, bJ_s, bA_s, nz_0, nc_0, nz_1, nc_1, nz_2, nc_2, nz_3, nc_3, nz_4, nc_4, nz_5, nc_5, nz_6, nc_6, nz_7, nc_7, nz_8, nc_8, nz_9, nc_9, nz_10, nc_10, nz_11, nc_11, nz_12, nc_12, if_true, if_false, eq_self, true_and, and_true, false_or, or_false, true_or, or_true, false_and, and_false, not_true, not_false_eq_true, ne_eq, ite_self, ite_not, ↓reduceIte, n_101, n_107, n_11]
      exact b5
    · have hle : rwN h k ≤ k := rwN_le
      generalize hr : rwN h k = r at *
      have hr12 : r < 12 := by omega
      have j0c : (nI (r)).toNatClampNeg = r := nI_clamp (by omega)
      have j0z : (nI (r) < 0) = False := n_ge0 (by omega)
      have j0l : (12 ≤ r) = False := n_lef (by omega)
      obtain ⟨cr, lr⟩ := cl_208 hr12
      have xk : Int32.toInt64 (nI k) = lN k := nI_l (by omega)
      have n191 : (191 : Nat) ≠ 208 + r := by omega
      have k1 : ∀ (J2 : mJ) (i : Nat) (v : Int64), wJ J2 (208 + r) i v 191 = J2 191 := fun J2 i v => funext fun _ => wJ_ne n191
      obtain ⟨I', J', b1, b2', b3, b4, b5⟩ := ih (k + 1) (wI I1 0 18 (nI (r + 1))) (wJ (wJ (wJ J1 (208 + r) 0 (lN k)) (208 + r) 1 (low (h k) (nI 0))) (208 + r) 2 (low (h k) (nI 1))) (by omega)
        (fun a f hh => by
          rcases hh with hh | hh
          · rw [wI_ne hh]; exact h1 a f (Or.inl hh)
          · rw [wI_nk hh]; exact h1 a f (Or.inr hh))
        (by rw [wI_eq, rwN_s, if_neg h0, hr])
        (fun a ha => by
          have : a ≠ 208 + r := by omega
          funext j
          rw [wJ_ne this, wJ_ne this, wJ_ne this]; exact congrFun (h3 a ha) j)
        (fun m hm i hi => by
          rw [rwN_s, if_neg h0, hr] at hm
          rw [rwV_s, if_neg h0, hr]
          by_cases hmr : m = r
          · subst hmr
            rw [if_pos rfl]
            rcases (show i = 0 ∨ i = 1 ∨ i = 2 by omega) with rfl | rfl | rfl
            · rw [wJ_nk (by decide), wJ_nk (by decide), wJ_eq]; rfl
            · rw [wJ_nk (by decide), wJ_eq]; rfl
            · rw [wJ_eq]; rfl
          · rw [if_neg hmr, wJ_ne (by omega), wJ_ne (by omega), wJ_ne (by omega)]
            exact h4 m (by omega) i hi)
      refine ⟨I', J', b1, b2', b3, b4, ?_⟩
      simp only [lc_0, lr_0_0, lr_0_3, lr_0_10, lc_207, ll_207, lc_190, lr_190_1, lc_191, ll_191, w_C W1, h9, h2, n_lt (show k < 2 ^ 31 by omega) (show nP s < 2 ^ 31 by omega), eq_true hkn, i0c, i0z, i0l, j0c, j0z, j0l, hj, k1, lN_z (show h k < 2 ^ 60 by omega), eq_false h0, r_207 hr12, cr, lr, xk, k34 (show h k < 2 ^ 60 by omega), nI_add, show (103 ≤ 182 ∧ 182 < 200) = True from eq_true (by decide), n_lef (show 0 < 3 by decide), n_lef (show 1 < 3 by decide), n_lef (show 2 < 3 by decide), nn_0_1, nn_0_2, nn_0_3, nn_0_4, nn_0_5, nn_0_6, nn_0_7, nn_0_8, nn_1_0, nn_1_2, nn_1_3, nn_1_4, nn_1_5, nn_1_6, nn_1_7, nn_1_8, nn_2_0, nn_2_1, nn_2_3, nn_2_4, nn_2_5, nn_2_6, nn_2_7, nn_2_8, nn_3_0, nn_3_1, nn_3_2, nn_3_4, nn_3_5, nn_3_6, nn_3_7, nn_3_8, nn_4_0, nn_4_1, nn_4_2, nn_4_3, nn_4_5, nn_4_6, nn_4_7, nn_4_8, nn_5_0, nn_5_1, nn_5_2, nn_5_3, nn_5_4, nn_5_6, nn_5_7, nn_5_8, nn_6_0, nn_6_1, nn_6_2, nn_6_3, nn_6_4, nn_6_5, nn_6_7, nn_6_8, nn_7_0, nn_7_1, nn_7_2, nn_7_3, nn_7_4, nn_7_5, nn_7_6, nn_7_8, nn_8_0, nn_8_1, nn_8_2, nn_8_3, nn_8_4, nn_8_5, nn_8_6, nn_8_7, nq_0, nq_1, nq_2, nq_3, nq_4, nq_5, nq_6, nq_7, nq_8, bq_s, mS_c, mS_l, mS_r, mS_i, mS_j, mS_pi, mS_pj, lt_st, bq_s, bV_s, bI_s, bJ_s, bA_s, nz_0, nc_0, nz_1, nc_1, nz_2, nc_2, nz_3, nc_3, nz_4, nc_4, nz_5, nc_5, nz_6, nc_6, nz_7, nc_7, nz_8, nc_8, nz_9, nc_9, nz_10, nc_10, nz_11, nc_11, nz_12, nc_12, if_true, if_false, eq_self, true_and, and_true, false_or, or_false, true_or, or_true, false_and, and_false, not_true, not_false_eq_true, ne_eq, ite_self, ite_not, ↓reduceIte, n_101, n_107, n_11]
      exact b5
theorem k122 (hR : Rep I 1 s) (hW : WF s) (hc : c < nC s) : ∃ I' J', (∀ a f, a ≠ 13 → (a ≠ 0 ∨ f ≠ 18) → I' a f = I a f) ∧ I' 0 18 = nI (rwN (shA s c) (nP s)) ∧ (∀ a, a < 208 ∨ 220 ≤ a → a ≠ 191 → J' a = J a) ∧ (∀ m, m < rwN (shA s c) (nP s) → ∀ i, i < 3 → J' (208 + m) i = rwV (shA s c) (nP s) m i) ∧ am_cal (d + 7) 122 [.ref 0, .int (nI c)] (mS I J) = some (some (.int (nI (rwN (shA s c) (nP s)))), mS I' J') := by
  have hc12 := hW.nC.1
  have ew : WH = 4194304 := rfl
  obtain ⟨I1, J1, a1, a2, a3, a4⟩ := k37 (d := d) (J := J) (Or.inl ⟨rfl, rfl⟩) hR hW hc
  have hR1 : Rep (wI I1 0 18 (nI 0)) 1 s := (hR.fr hW fun a h1 h2 h3 => a1 a h3).fr hW fun a h1 h2 h3 => wI_F1 a (by omega)
  obtain ⟨I2, J2, b1, b2', b3, b4, b5⟩ := e122 (d := d + 5) (J := J1) hR1 hW a3 (fun p hp => by have := shA_le hW hc p; omega) (nP s) 0 (wI I1 0 18 (nI 0)) J1 (by omega) (fun _ _ _ => rfl) wI_eq (fun _ _ => rfl) (fun m hm => absurd hm (by simp [rwN]))
  have hx : isCl s (nI c) := ⟨by rw [n_ge0 (show c < 2 ^ 31 by omega)]; exact id, by rw [hW.nC.2, n_lt (by omega) (by omega)]; exact hc⟩
  refine ⟨I2, J2, fun a f h1 h2 => ?_, b2', fun a h1 h2 => by rw [b3 a h1, a2 a h2], b4, ?_⟩
  · rw [b1 a f h2]
    rcases h2 with h2 | h2
    · rw [wI_ne h2, a1 a h1]
    · rw [wI_nk h2, a1 a h1]
  · rw [c_122 lc_0]
    simp only [lc_0, lr_0_0, lr_0_3, k66 W1 hR, if_pos hx, z_t, z_f, a4, bq_s, mS_c, mS_l, mS_r, mS_i, mS_j, mS_pi, mS_pj, lt_st, bq_s, bV_s, bI_s, bJ_s, bA_s, nz_0, nc_0, nz_1, nc_1, nz_2, nc_2, nz_3, nc_3, nz_4, nc_4, nz_5, nc_5, nz_6, nc_6, nz_7, nc_7, nz_8, nc_8, nz_9, nc_9, nz_10, nc_10, nz_11, nc_11, nz_12, nc_12, if_true, if_false, eq_self, true_and, and_true, false_or, or_false, true_or, or_true, false_and, and_false, not_true, not_false_eq_true, ne_eq, ite_self, ite_not, ↓reduceIte, n_101, n_107, n_11]
    exact b5
theorem k122n (hR : Rep I 1 s) (hx : ¬ isCl s x) : am_cal (d + 2) 122 [.ref 0, .int x] (mS I J) = some (some (.int (Int32.ofInt (-1))), mS I J) := by
  rw [c_122 lc_0]
  simp only [lc_0, lr_0_0, k66 W1 hR, if_neg hx, z_t, z_f, bq_s, mS_c, mS_l, mS_r, mS_i, mS_j, mS_pi, mS_pj, lt_st, bq_s, bV_s, bI_s, bJ_s, bA_s, nz_0, nc_0, nz_1, nc_1, nz_2, nc_2, nz_3, nc_3, nz_4, nc_4, nz_5, nc_5, nz_6, nc_6, nz_7, nc_7, nz_8, nc_8, nz_9, nc_9, nz_10, nc_10, nz_11, nc_11, nz_12, nc_12, if_true, if_false, eq_self, true_and, and_true, false_or, or_false, true_or, or_true, false_and, and_false, not_true, not_false_eq_true, ne_eq, ite_self, ite_not, ↓reduceIte, n_101, n_107, n_11]
end H6s
