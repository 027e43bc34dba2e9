/-! ===== the class: remembers, apart, blame ===== -/
section C4
variable {I : mI} {J : mJ} {w p q e c d l b g : Nat} {s : Rw} {x y key day : Int32}
theorem bit_kn (hW : WF s) (hd : d < nD s) : bit (knw s p) d = rem s d p := by
  have h10 := hW.nD.1
  unfold knw
  rw [bit_mk (by omega) (by omega), decide_eq_true hd, Bool.true_and]
theorem k109 (h : Rep I 1 s) (hW : WF s) : ∃ I', FC I' I ∧ am_cal (g + 3) 109 [.ref 0, .int x, .int y] (mS I J) = some (some (.int (v_rem s x y)), mS I' J) := by
  have h12 := hW.nP.1
  have h10 := hW.nD.1
  rw [c_109 lc_0]
  simp only [lc_0, lr_0_0, k65 W1 h, k67 W1 h, bq_s, mS_c, mS_l, mS_r, mS_i, mS_j, mS_pi, mS_pj, lt_st, bq_s, bV_s, bI_s, bJ_s, bA_s, nz_0, nc_0, nz_1, nc_1, nz_2, nc_2, nz_3, nc_3, nz_4, nc_4, nz_5, nc_5, nz_6, nc_6, nz_7, nc_7, nz_8, nc_8, nz_9, nc_9, nz_10, nc_10, nz_11, nc_11, nz_12, nc_12, if_true, if_false, eq_self, true_and, and_true, false_or, or_false, true_or, or_true, false_and, and_false, not_true, not_false_eq_true, ne_eq, ite_self, ite_not, ↓reduceIte, n_101, n_107, n_11]
  unfold v_rem
  by_cases hx : isP s x
  · by_cases hy : isDd s y
    · rw [if_pos hx, if_pos hx, if_pos hy, if_pos hy, if_neg (by decide), if_neg (by decide)]
      obtain ⟨p, hp, rfl⟩ := isP_n hW hx
      obtain ⟨d, hd, rfl⟩ := isDd_n hW hy
      obtain ⟨I', hF, hA, hr⟩ := k41 (g := g) (J := J) h hW
      have i0c : (nI (p)).toNatClampNeg = p := nI_clamp (by omega)
      have i0z : (nI (p) < 0) = False := n_ge0 (by omega)
      have i0l : (12 ≤ p) = False := n_lef (by omega)
      refine ⟨I', FC.k1 hF, ?_⟩
      simp only [lc_0, lr_0_6, lr_195_1, lc_195, lc_196, ll_196, hr, i0c, i0z, i0l, hA p hp, bq_s, mS_c, mS_l, mS_r, mS_i, mS_j, mS_pi, mS_pj, lt_st, bq_s, bV_s, bI_s, bJ_s, bA_s, nz_0, nc_0, nz_1, nc_1, nz_2, nc_2, nz_3, nc_3, nz_4, nc_4, nz_5, nc_5, nz_6, nc_6, nz_7, nc_7, nz_8, nc_8, nz_9, nc_9, nz_10, nc_10, nz_11, nc_11, nz_12, nc_12, if_true, if_false, eq_self, true_and, and_true, false_or, or_false, true_or, or_true, false_and, and_false, not_true, not_false_eq_true, ne_eq, ite_self, ite_not, ↓reduceIte, n_101, n_107, n_11]
      rw [bit_at (show d < 32 by omega), bit_kn hW hd, nI_clamp (by omega)]
    · exact ⟨I, FC.rf, by rw [if_pos hx, if_pos hx, if_neg hy, if_neg hy, if_neg (by decide), if_pos nI_0]⟩
  · exact ⟨I, FC.rf, by rw [if_neg hx, if_neg hx, if_pos nI_0]⟩
theorem k43 (h : Rep I 1 s) (hW : WF s) (hp : p < nP s) (hq : q < nP s) : ∃ I', FC I' I ∧ am_cal (g + 3) 43 [.ref 195, .int (nI p), .int (nI q)] (mS I J) = some (some (.int (apU s p q (nD s) 0)), mS I' J) := by
  have h12 := hW.nP.1
  have h10 := hW.nD.1
  obtain ⟨I', hF, hA, hr⟩ := k41 (g := g) (J := J) h hW
  have i0c : (nI (p)).toNatClampNeg = p := nI_clamp (by omega)
  have i0z : (nI (p) < 0) = False := n_ge0 (by omega)
  have i0l : (12 ≤ p) = False := n_lef (by omega)
  have i1c : (nI (q)).toNatClampNeg = q := nI_clamp (by omega)
  have i1z : (nI (q) < 0) = False := n_ge0 (by omega)
  have i1l : (12 ≤ q) = False := n_lef (by omega)
  have h2 := FC.rep h hW (FC.k1 hF)
  refine ⟨I', FC.k1 hF, ?_⟩
  have lp : ∀ n k, k + n = nD s → am_X (am_cal (g + 2)) 43 4 [.ref 195, .int (nI p), .int (nI q), .int (nI k)] [] (mS I' J) = some (some (.int (apU s p q n k)), mS I' J) := by
    intro n
    induction n with
    | zero =>
      intro k hk
      rw [e_43_4]
      simp only [lc_195, lr_195_0, w_C W1, h2.dds, hW.nD.2, n_lt (show k < 2 ^ 31 by omega) (show nD s < 2 ^ 31 by omega), n_ltf (show nD s ≤ k by omega), bq_s, mS_c, mS_l, mS_r, mS_i, mS_j, mS_pi, mS_pj, lt_st, bq_s, bV_s, bI_s, bJ_s, bA_s, nz_0, nc_0, nz_1, nc_1, nz_2, nc_2, nz_3, nc_3, nz_4, nc_4, nz_5, nc_5, nz_6, nc_6, nz_7, nc_7, nz_8, nc_8, nz_9, nc_9, nz_10, nc_10, nz_11, nc_11, nz_12, nc_12, if_true, if_false, eq_self, true_and, and_true, false_or, or_false, true_or, or_true, false_and, and_false, not_true, not_false_eq_true, ne_eq, ite_self, ite_not, ↓reduceIte, n_101, n_107, n_11]
      rfl
    | succ n ih =>
      intro k hk
      rw [e_43_4]
      simp only [lc_195, lr_195_0, lr_195_1, lc_196, ll_196, w_C W1, h2.dds, hW.nD.2, n_lt (show k < 2 ^ 31 by omega) (show nD s < 2 ^ 31 by omega), n_ltt (show k < nD s by omega), i0c, i0z, i0l, i1c, i1z, i1l, hA p hp, hA q hq, bit_at0 (show k < 32 by omega), bit_xor, bit_kn hW (show k < nD s by omega), nI_add, ih (k + 1) (show k + 1 + n = nD s by omega), bq_s, mS_c, mS_l, mS_r, mS_i, mS_j, mS_pi, mS_pj, lt_st, bq_s, bV_s, bI_s, bJ_s, bA_s, nz_0, nc_0, nz_1, nc_1, nz_2, nc_2, nz_3, nc_3, nz_4, nc_4, nz_5, nc_5, nz_6, nc_6, nz_7, nc_7, nz_8, nc_8, nz_9, nc_9, nz_10, nc_10, nz_11, nc_11, nz_12, nc_12, if_true, if_false, eq_self, true_and, and_true, false_or, or_false, true_or, or_true, false_and, and_false, not_true, not_false_eq_true, ne_eq, ite_self, ite_not, ↓reduceIte, n_101, n_107, n_11]
      rw [apU_s]
      cases h1 : rem s k p <;> cases h3 : rem s k q <;> simp only [Bool.xor_false, Bool.xor_true, Bool.not_false, Bool.not_true, Bool.false_eq_true, Bool.true_eq_false, if_true, if_false, eq_self, reduceIte]
  rw [c_43 lc_195]
  simp only [lc_195, hr, bq_s, mS_c, mS_l, mS_r, mS_i, mS_j, mS_pi, mS_pj, lt_st, bq_s, bV_s, bI_s, bJ_s, bA_s, nz_0, nc_0, nz_1, nc_1, nz_2, nc_2, nz_3, nc_3, nz_4, nc_4, nz_5, nc_5, nz_6, nc_6, nz_7, nc_7, nz_8, nc_8, nz_9, nc_9, nz_10, nc_10, nz_11, nc_11, nz_12, nc_12, if_true, if_false, eq_self, true_and, and_true, false_or, or_false, true_or, or_true, false_and, and_false, not_true, not_false_eq_true, ne_eq, ite_self, ite_not, ↓reduceIte, n_101, n_107, n_11]
  exact lp (nD s) 0 (by omega)
theorem k115 (h : Rep I 1 s) (hW : WF s) : ∃ I', FC I' I ∧ am_cal (g + 4) 115 [.ref 0, .int x, .int y] (mS I J) = some (some (.int (v_apart s x y)), mS I' J) := by
  have h12 := hW.nP.1
  rw [c_115 lc_0]
  simp only [lc_0, lr_0_0, k65 W1 h, bq_s, mS_c, mS_l, mS_r, mS_i, mS_j, mS_pi, mS_pj, lt_st, bq_s, bV_s, bI_s, bJ_s, bA_s, nz_0, nc_0, nz_1, nc_1, nz_2, nc_2, nz_3, nc_3, nz_4, nc_4, nz_5, nc_5, nz_6, nc_6, nz_7, nc_7, nz_8, nc_8, nz_9, nc_9, nz_10, nc_10, nz_11, nc_11, nz_12, nc_12, if_true, if_false, eq_self, true_and, and_true, false_or, or_false, true_or, or_true, false_and, and_false, not_true, not_false_eq_true, ne_eq, ite_self, ite_not, ↓reduceIte, n_101, n_107, n_11]
  unfold v_apart
  by_cases hx : isP s x
  · by_cases hy : isP s y
    · rw [if_pos hx, if_pos hx, if_pos hy, if_pos hy, if_neg (by decide), if_neg (by decide)]
      obtain ⟨p, hp, rfl⟩ := isP_n hW hx
      obtain ⟨q, hq, rfl⟩ := isP_n hW hy
      obtain ⟨I', hF, hr⟩ := k43 (g := g) (J := J) h hW hp hq
      refine ⟨I', hF, ?_⟩
      simp only [lr_0_6, hr, bq_s, mS_c, mS_l, mS_r, mS_i, mS_j, mS_pi, mS_pj, lt_st, bq_s, bV_s, bI_s, bJ_s, bA_s, nz_0, nc_0, nz_1, nc_1, nz_2, nc_2, nz_3, nc_3, nz_4, nc_4, nz_5, nc_5, nz_6, nc_6, nz_7, nc_7, nz_8, nc_8, nz_9, nc_9, nz_10, nc_10, nz_11, nc_11, nz_12, nc_12, if_true, if_false, eq_self, true_and, and_true, false_or, or_false, true_or, or_true, false_and, and_false, not_true, not_false_eq_true, ne_eq, ite_self, ite_not, ↓reduceIte, n_101, n_107, n_11]
      rw [nI_clamp (show p < 2 ^ 31 by omega), nI_clamp (show q < 2 ^ 31 by omega)]
    · exact ⟨I, FC.rf, by rw [if_pos hx, if_pos hx, if_neg hy, if_neg hy, if_neg (by decide), if_pos nI_0]⟩
  · exact ⟨I, FC.rf, by rw [if_neg hx, if_neg hx, if_pos nI_0]⟩
theorem k48 (h : Rep I 1 s) (hW : WF s) (hp : p < nP s) : am_cal (g + 1) 48 [.ref 195, .int (nI p)] (mS I J) = some (some (.int (nI (bdy s (nP s) p))), mS I J) := by
  have h12 := hW.nP.1
  have lp : ∀ n i p, i + n = nP s → p < nP s → am_X (am_cal g) 48 4 [.ref 195, .null, .int (nI p), .int (nI i)] [] (mS I J) = some (some (.int (nI (bdy s n p))), mS I J) := by
    intro n
    induction n with
    | zero =>
      intro i p hi hp
      rw [e_48_4]
      simp only [lc_195, lr_195_0, w_C W1, h.ppl, hW.nP.2, n_lt (show i < 2 ^ 31 by omega) (show nP s < 2 ^ 31 by omega), n_ltf (show nP s ≤ i by omega), bq_s, mS_c, mS_l, mS_r, mS_i, mS_j, mS_pi, mS_pj, lt_st, bq_s, bV_s, bI_s, bJ_s, bA_s, nz_0, nc_0, nz_1, nc_1, nz_2, nc_2, nz_3, nc_3, nz_4, nc_4, nz_5, nc_5, nz_6, nc_6, nz_7, nc_7, nz_8, nc_8, nz_9, nc_9, nz_10, nc_10, nz_11, nc_11, nz_12, nc_12, if_true, if_false, eq_self, true_and, and_true, false_or, or_false, true_or, or_true, false_and, and_false, not_true, not_false_eq_true, ne_eq, ite_self, ite_not, ↓reduceIte, n_101, n_107, n_11]
      rfl
    | succ n ih =>
      intro i p hi hp
      rw [e_48_4]
      have i0c : (nI (p)).toNatClampNeg = p := nI_clamp (by omega)
      have i0z : (nI (p) < 0) = False := n_ge0 (by omega)
      have i0l : (12 ≤ p) = False := n_lef (by omega)
      simp only [lc_195, lr_195_0, w_C W1, w_R0 W1, w_C1 W1, w_L1 W1, w_rp W1 (show p < 12 by omega), w_cp W1 (show p < 12 by omega), h.ppl, hW.nP.2, n_lt (show i < 2 ^ 31 by omega) (show nP s < 2 ^ 31 by omega), n_ltt (show i < nP s by omega), i0c, i0z, i0l, h.pF hp (show 7 < 8 by decide), nI_add, bq_s, mS_c, mS_l, mS_r, mS_i, mS_j, mS_pi, mS_pj, lt_st, bq_s, bV_s, bI_s, bJ_s, bA_s, nz_0, nc_0, nz_1, nc_1, nz_2, nc_2, nz_3, nc_3, nz_4, nc_4, nz_5, nc_5, nz_6, nc_6, nz_7, nc_7, nz_8, nc_8, nz_9, nc_9, nz_10, nc_10, nz_11, nc_11, nz_12, nc_12, if_true, if_false, eq_self, true_and, and_true, false_or, or_false, true_or, or_true, false_and, and_false, not_true, not_false_eq_true, ne_eq, ite_self, ite_not, ↓reduceIte, n_101, n_107, n_11]
      rw [bdy_s]
      rcases WFin hW hp with h2 | ⟨_, j, hj, hj2, h2⟩
      · rw [h2, if_pos (show m9 < 0 from by rw [m9_lt]; trivial), if_pos (show m9 < 0 from by rw [m9_lt]; trivial)]
      · rw [h2, if_neg (nI_pos (show j < 2 ^ 31 by omega)), if_neg (nI_pos (show j < 2 ^ 31 by omega)), nI_clamp (by omega)]
        exact ih (i + 1) j (by omega) hj2
  rw [c_48 lc_195]
  exact lp (nP s) 0 p (by omega) hp
theorem k49 (h : Rep I 1 s) (hW : WF s) (hp : p < nP s) : am_cal (g + 2) 49 [.ref 195, .int (nI p)] (mS I J) = some (some (.int (unE s p)), mS I J) := by
  rw [c_49 lc_195]
  simp only [lc_195, lr_195_0, k69 W1 h hW hp, bq_s, mS_c, mS_l, mS_r, mS_i, mS_j, mS_pi, mS_pj, lt_st, bq_s, bV_s, bI_s, bJ_s, bA_s, nz_0, nc_0, nz_1, nc_1, nz_2, nc_2, nz_3, nc_3, nz_4, nc_4, nz_5, nc_5, nz_6, nc_6, nz_7, nc_7, nz_8, nc_8, nz_9, nc_9, nz_10, nc_10, nz_11, nc_11, nz_12, nc_12, if_true, if_false, eq_self, true_and, and_true, false_or, or_false, true_or, or_true, false_and, and_false, not_true, not_false_eq_true, ne_eq, ite_self, ite_not, ↓reduceIte, n_101, n_107, n_11]
  unfold unE
  by_cases h6 : pF s p 0 = nI 6
  · rw [if_pos h6, if_pos h6, if_neg (by decide)]
  · rw [if_neg h6, if_neg h6, if_pos nI_0]
theorem k51 (h : Rep I 1 s) (hW : WF s) (hp : p < nP s) : am_cal (g + 2) 51 [.ref 195, .int (nI p)] (mS I J) = some (some (.int (b2 (cnd s p))), mS I J) := by
  have h12 := hW.nP.1
  have i0c : (nI (p)).toNatClampNeg = p := nI_clamp (by omega)
  have i0z : (nI (p) < 0) = False := n_ge0 (by omega)
  have i0l : (12 ≤ p) = False := n_lef (by omega)
  rw [c_51 lc_195]
  simp only [lc_195, lr_195_0, k68 W1 h hW hp, w_C W1, w_R0 W1, w_C1 W1, w_L1 W1, w_rp W1 (show p < 12 by omega), w_cp W1 (show p < 12 by omega), i0c, i0z, i0l, h.vd hp, bq_s, mS_c, mS_l, mS_r, mS_i, mS_j, mS_pi, mS_pj, lt_st, bq_s, bV_s, bI_s, bJ_s, bA_s, nz_0, nc_0, nz_1, nc_1, nz_2, nc_2, nz_3, nc_3, nz_4, nc_4, nz_5, nc_5, nz_6, nc_6, nz_7, nc_7, nz_8, nc_8, nz_9, nc_9, nz_10, nc_10, nz_11, nc_11, nz_12, nc_12, if_true, if_false, eq_self, true_and, and_true, false_or, or_false, true_or, or_true, false_and, and_false, not_true, not_false_eq_true, ne_eq, ite_self, ite_not, ↓reduceIte, n_101, n_107, n_11]
  by_cases ha : isAw s p
  · rw [if_pos ha, if_neg (by decide)]
    by_cases hv : isVd s p
    · rw [if_b2t hv, b2_f (fun h => h.2 hv)]
    · rw [if_b2f hv, b2_t ⟨ha, hv⟩]
  · rw [if_neg ha, if_pos nI_0, b2_f (fun h => ha h.1)]
theorem k50 (h : Rep I 1 s) (hW : WF s) (hd : d < nD s) : ∃ I', FC I' I ∧ am_cal (g + 3) 50 [.ref 195, .int (nI d)] (mS I J) = some (some (.int (mkS (fun q => cnB s q && rem s d q) (nP s))), mS I' J) := by
  have h12 := hW.nP.1
  have h10 := hW.nD.1
  obtain ⟨I', hF, hA, hr⟩ := k41 (g := g) (J := J) h hW
  have h2 := FC.rep h hW (FC.k1 hF)
  refine ⟨I', FC.k1 hF, ?_⟩
  have lp : ∀ n k, k + n = nP s → am_X (am_cal (g + 2)) 50 6 [.ref 195, .int (nI d), .int (mkS (fun q => cnB s q && rem s d q) k), .int (nI k)] [] (mS I' J) = some (some (.int (mkS (fun q => cnB s q && rem s d q) (nP s))), mS I' J) := by
    intro n
    induction n with
    | zero =>
      intro k hk
      rw [e_50_6]
      simp only [lc_195, lr_195_0, w_C W1, h2.ppl, hW.nP.2, n_lt (show k < 2 ^ 31 by omega) (show nP s < 2 ^ 31 by omega), n_ltf (show nP s ≤ k by omega), bq_s, mS_c, mS_l, mS_r, mS_i, mS_j, mS_pi, mS_pj, lt_st, bq_s, bV_s, bI_s, bJ_s, bA_s, nz_0, nc_0, nz_1, nc_1, nz_2, nc_2, nz_3, nc_3, nz_4, nc_4, nz_5, nc_5, nz_6, nc_6, nz_7, nc_7, nz_8, nc_8, nz_9, nc_9, nz_10, nc_10, nz_11, nc_11, nz_12, nc_12, if_true, if_false, eq_self, true_and, and_true, false_or, or_false, true_or, or_true, false_and, and_false, not_true, not_false_eq_true, ne_eq, ite_self, ite_not, ↓reduceIte, n_101, n_107, n_11]
      rw [show k = nP s by omega]
    | succ n ih =>
      intro k hk
      rw [e_50_6]
      have i0c : (nI (k)).toNatClampNeg = k := nI_clamp (by omega)
      have i0z : (nI (k) < 0) = False := n_ge0 (by omega)
      have i0l : (12 ≤ k) = False := n_lef (by omega)
      have ih := ih (k + 1) (by omega)
      rw [mkS_s] at ih
      simp only [lc_195, lr_195_0, lr_195_1, lc_196, ll_196, w_C W1, h2.ppl, hW.nP.2, n_lt (show k < 2 ^ 31 by omega) (show nP s < 2 ^ 31 by omega), n_ltt (show k < nP s by omega), k51 h2 hW (show k < nP s by omega), i0c, i0z, i0l, hA k (show k < nP s by omega), bit_at0 (show d < 32 by omega), bit_kn hW hd, nI_add, bq_s, mS_c, mS_l, mS_r, mS_i, mS_j, mS_pi, mS_pj, lt_st, bq_s, bV_s, bI_s, bJ_s, bA_s, nz_0, nc_0, nz_1, nc_1, nz_2, nc_2, nz_3, nc_3, nz_4, nc_4, nz_5, nc_5, nz_6, nc_6, nz_7, nc_7, nz_8, nc_8, nz_9, nc_9, nz_10, nc_10, nz_11, nc_11, nz_12, nc_12, if_true, if_false, eq_self, true_and, and_true, false_or, or_false, true_or, or_true, false_and, and_false, not_true, not_false_eq_true, ne_eq, ite_self, ite_not, ↓reduceIte, n_101, n_107, n_11]
      by_cases hc : cnd s k
      · rw [if_b2t hc]
        rw [cnB_t hc, Bool.true_and] at ih
        cases hm : rem s d k <;> rw [hm] at ih <;> simp only [Bool.false_eq_true, Bool.true_eq_false, if_true, if_false, reduceIte] at ih ⊢ <;> exact ih
      · rw [if_b2f hc]
        rw [cnB_f hc, Bool.false_and, if_neg (by decide)] at ih
        exact ih
  rw [c_50 lc_195]
  simp only [lc_195, hr, bq_s, mS_c, mS_l, mS_r, mS_i, mS_j, mS_pi, mS_pj, lt_st, bq_s, bV_s, bI_s, bJ_s, bA_s, nz_0, nc_0, nz_1, nc_1, nz_2, nc_2, nz_3, nc_3, nz_4, nc_4, nz_5, nc_5, nz_6, nc_6, nz_7, nc_7, nz_8, nc_8, nz_9, nc_9, nz_10, nc_10, nz_11, nc_11, nz_12, nc_12, if_true, if_false, eq_self, true_and, and_true, false_or, or_false, true_or, or_true, false_and, and_false, not_true, not_false_eq_true, ne_eq, ite_self, ite_not, ↓reduceIte, n_101, n_107, n_11]
  exact lp (nP s) 0 (by omega)
theorem k110 (h : Rep I 1 s) (hW : WF s) : ∃ I', FC I' I ∧ am_cal (g + 6) 110 [.ref 0, .int y] (mS I J) = some (some (.int (v_blame s y)), mS I' J) := by
  have h12 := hW.nP.1
  have h10 := hW.nD.1
  rw [c_110 lc_0]
  simp only [lc_0, lr_0_0, k67 W1 h, bq_s, mS_c, mS_l, mS_r, mS_i, mS_j, mS_pi, mS_pj, lt_st, bq_s, bV_s, bI_s, bJ_s, bA_s, nz_0, nc_0, nz_1, nc_1, nz_2, nc_2, nz_3, nc_3, nz_4, nc_4, nz_5, nc_5, nz_6, nc_6, nz_7, nc_7, nz_8, nc_8, nz_9, nc_9, nz_10, nc_10, nz_11, nc_11, nz_12, nc_12, if_true, if_false, eq_self, true_and, and_true, false_or, or_false, true_or, or_true, false_and, and_false, not_true, not_false_eq_true, ne_eq, ite_self, ite_not, ↓reduceIte, n_101, n_107, n_11]
  unfold v_blame
  by_cases hy : isDd s y
  · rw [if_pos hy, if_pos hy, if_neg (by decide)]
    obtain ⟨d, hd, rfl⟩ := isDd_n hW hy
    obtain ⟨⟨p, hp, e0⟩, _⟩ := WFnd hW hd
    have i0c : (nI (d)).toNatClampNeg = d := nI_clamp (by omega)
    have i0z : (nI (d) < 0) = False := n_ge0 (by omega)
    have i0l : (10 ≤ d) = False := n_lef (by omega)
    obtain ⟨I1, hF, hr⟩ := k87 (d := g) (J := J) (key := nI 2) W1 h hW hp
    have h2 := FC.rep h hW (FC.f1 hF)
    simp only [lr_0_6, bq_s, mS_c, mS_l, mS_r, mS_i, mS_j, mS_pi, mS_pj, lt_st, bq_s, bV_s, bI_s, bJ_s, bA_s, nz_0, nc_0, nz_1, nc_1, nz_2, nc_2, nz_3, nc_3, nz_4, nc_4, nz_5, nc_5, nz_6, nc_6, nz_7, nc_7, nz_8, nc_8, nz_9, nc_9, nz_10, nc_10, nz_11, nc_11, nz_12, nc_12, if_true, if_false, eq_self, true_and, and_true, false_or, or_false, true_or, or_true, false_and, and_false, not_true, not_false_eq_true, ne_eq, ite_self, ite_not, ↓reduceIte, n_101, n_107, n_11]
    rw [c_47 lc_195]
    simp only [lc_195, lr_195_0, w_C W1, w_R4 W1, w_C5 W1, w_L5 W1, i0c, i0z, i0l, h.d0 hd, e0, nI_clamp (show p < 2 ^ 31 by omega), hr, bq_s, mS_c, mS_l, mS_r, mS_i, mS_j, mS_pi, mS_pj, lt_st, bq_s, bV_s, bI_s, bJ_s, bA_s, nz_0, nc_0, nz_1, nc_1, nz_2, nc_2, nz_3, nc_3, nz_4, nc_4, nz_5, nc_5, nz_6, nc_6, nz_7, nc_7, nz_8, nc_8, nz_9, nc_9, nz_10, nc_10, nz_11, nc_11, nz_12, nc_12, if_true, if_false, eq_self, true_and, and_true, false_or, or_false, true_or, or_true, false_and, and_false, not_true, not_false_eq_true, ne_eq, ite_self, ite_not, ↓reduceIte, n_101, n_107, n_11]
    rcases lawV_23 hW (k := 2) (Or.inl rfl) (f := fct (s 0) (s 1) (nI 0) (pF s p 0) (nI 0) (nI 0)) with hv | hv | hv
    · refine ⟨I1, FC.f1 hF, ?_⟩
      simp only [hv, k48 h2 hW hp, k49 h2 hW (bdy_lt hW (nP s) p hp), nn_0_1, nn_0_2, nn_0_3, nn_0_4, nn_0_5, nn_0_6, nn_0_7, nn_0_8, nn_1_0, nn_1_2, nn_1_3, nn_1_4, nn_1_5, nn_1_6, nn_1_7, nn_1_8, nn_2_0, nn_2_1, nn_2_3, nn_2_4, nn_2_5, nn_2_6, nn_2_7, nn_2_8, nn_3_0, nn_3_1, nn_3_2, nn_3_4, nn_3_5, nn_3_6, nn_3_7, nn_3_8, nn_4_0, nn_4_1, nn_4_2, nn_4_3, nn_4_5, nn_4_6, nn_4_7, nn_4_8, nn_5_0, nn_5_1, nn_5_2, nn_5_3, nn_5_4, nn_5_6, nn_5_7, nn_5_8, nn_6_0, nn_6_1, nn_6_2, nn_6_3, nn_6_4, nn_6_5, nn_6_7, nn_6_8, nn_7_0, nn_7_1, nn_7_2, nn_7_3, nn_7_4, nn_7_5, nn_7_6, nn_7_8, nn_8_0, nn_8_1, nn_8_2, nn_8_3, nn_8_4, nn_8_5, nn_8_6, nn_8_7, nq_0, nq_1, nq_2, nq_3, nq_4, nq_5, nq_6, nq_7, nq_8, bq_s, mS_c, mS_l, mS_r, mS_i, mS_j, mS_pi, mS_pj, lt_st, bq_s, bV_s, bI_s, bJ_s, bA_s, nz_0, nc_0, nz_1, nc_1, nz_2, nc_2, nz_3, nc_3, nz_4, nc_4, nz_5, nc_5, nz_6, nc_6, nz_7, nc_7, nz_8, nc_8, nz_9, nc_9, nz_10, nc_10, nz_11, nc_11, nz_12, nc_12, if_true, if_false, eq_self, true_and, and_true, false_or, or_false, true_or, or_true, false_and, and_false, not_true, not_false_eq_true, ne_eq, ite_self, ite_not, ↓reduceIte, n_101, n_107, n_11]
    · obtain ⟨I2, hF2, hr2⟩ := k50 (g := g + 1) (J := J) h2 hW hd
      refine ⟨I2, (FC.f1 hF).tr hF2, ?_⟩
      simp only [hv, hr2, nn_0_1, nn_0_2, nn_0_3, nn_0_4, nn_0_5, nn_0_6, nn_0_7, nn_0_8, nn_1_0, nn_1_2, nn_1_3, nn_1_4, nn_1_5, nn_1_6, nn_1_7, nn_1_8, nn_2_0, nn_2_1, nn_2_3, nn_2_4, nn_2_5, nn_2_6, nn_2_7, nn_2_8, nn_3_0, nn_3_1, nn_3_2, nn_3_4, nn_3_5, nn_3_6, nn_3_7, nn_3_8, nn_4_0, nn_4_1, nn_4_2, nn_4_3, nn_4_5, nn_4_6, nn_4_7, nn_4_8, nn_5_0, nn_5_1, nn_5_2, nn_5_3, nn_5_4, nn_5_6, nn_5_7, nn_5_8, nn_6_0, nn_6_1, nn_6_2, nn_6_3, nn_6_4, nn_6_5, nn_6_7, nn_6_8, nn_7_0, nn_7_1, nn_7_2, nn_7_3, nn_7_4, nn_7_5, nn_7_6, nn_7_8, nn_8_0, nn_8_1, nn_8_2, nn_8_3, nn_8_4, nn_8_5, nn_8_6, nn_8_7, nq_0, nq_1, nq_2, nq_3, nq_4, nq_5, nq_6, nq_7, nq_8, bq_s, mS_c, mS_l, mS_r, mS_i, mS_j, mS_pi, mS_pj, lt_st, bq_s, bV_s, bI_s, bJ_s, bA_s, nz_0, nc_0, nz_1, nc_1, nz_2, nc_2, nz_3, nc_3, nz_4, nc_4, nz_5, nc_5, nz_6, nc_6, nz_7, nc_7, nz_8, nc_8, nz_9, nc_9, nz_10, nc_10, nz_11, nc_11, nz_12, nc_12, if_true, if_false, eq_self, true_and, and_true, false_or, or_false, true_or, or_true, false_and, and_false, not_true, not_false_eq_true, ne_eq, ite_self, ite_not, ↓reduceIte, n_101, n_107, n_11]
    · refine ⟨I1, FC.f1 hF, ?_⟩
      simp only [hv, k89 W1 h2 hW hp, k49 h2 hW (rt_lt hW (nP s) p hp), nn_0_1, nn_0_2, nn_0_3, nn_0_4, nn_0_5, nn_0_6, nn_0_7, nn_0_8, nn_1_0, nn_1_2, nn_1_3, nn_1_4, nn_1_5, nn_1_6, nn_1_7, nn_1_8, nn_2_0, nn_2_1, nn_2_3, nn_2_4, nn_2_5, nn_2_6, nn_2_7, nn_2_8, nn_3_0, nn_3_1, nn_3_2, nn_3_4, nn_3_5, nn_3_6, nn_3_7, nn_3_8, nn_4_0, nn_4_1, nn_4_2, nn_4_3, nn_4_5, nn_4_6, nn_4_7, nn_4_8, nn_5_0, nn_5_1, nn_5_2, nn_5_3, nn_5_4, nn_5_6, nn_5_7, nn_5_8, nn_6_0, nn_6_1, nn_6_2, nn_6_3, nn_6_4, nn_6_5, nn_6_7, nn_6_8, nn_7_0, nn_7_1, nn_7_2, nn_7_3, nn_7_4, nn_7_5, nn_7_6, nn_7_8, nn_8_0, nn_8_1, nn_8_2, nn_8_3, nn_8_4, nn_8_5, nn_8_6, nn_8_7, nq_0, nq_1, nq_2, nq_3, nq_4, nq_5, nq_6, nq_7, nq_8, bq_s, mS_c, mS_l, mS_r, mS_i, mS_j, mS_pi, mS_pj, lt_st, bq_s, bV_s, bI_s, bJ_s, bA_s, nz_0, nc_0, nz_1, nc_1, nz_2, nc_2, nz_3, nc_3, nz_4, nc_4, nz_5, nc_5, nz_6, nc_6, nz_7, nc_7, nz_8, nc_8, nz_9, nc_9, nz_10, nc_10, nz_11, nc_11, nz_12, nc_12, if_true, if_false, eq_self, true_and, and_true, false_or, or_false, true_or, or_true, false_and, and_false, not_true, not_false_eq_true, ne_eq, ite_self, ite_not, ↓reduceIte, n_101, n_107, n_11]
  · exact ⟨I, FC.rf, by rw [if_neg hy, if_neg hy, if_pos nI_0]⟩
end C4
