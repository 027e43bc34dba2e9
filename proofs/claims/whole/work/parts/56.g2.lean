/-! ===== the class: a new person; void and at rest ===== -/
section G2s
variable {I I' : mI} {J : mJ} {s s' : Rw} {w p q e c d k n g : Nat} {x y z u v sort key : Int32}
theorem k86g {y0 a h5 : Int32} (hw : isW w) (hW : WF s) (hL : RepL I (w + 7) s) (hp : p < 12) (f4 : I (w + 13 + p) 4 = pF s p 4) (f5 : I (w + 13 + p) 5 = pF s p 5) (f1 : I (w + 13 + p) 1 = pF s p 1) : ∃ I', F1 (w + 12) I' I ∧ am_cal (d + 4) 86 [.ref w, .int key, .int (nI p), .int y0, .int a, .int h5] (mS I J) = some (some (.int (lawV s key (fct y0 (nI p) (pF s p 4 - pF s p 5) (pF s p 1) a h5))), mS I' J) := by
  refine ⟨_, F1_6 (I := I) (q := w + 12) (a := y0) (b := nI p) (c := pF s p 4 - pF s p 5) (d := pF s p 1) (e := a) (g := h5), ?_⟩
  rw [c_86 (w_C hw)]
  have hc : (nI p).toNatClampNeg = p := nI_clamp (by omega)
  have hz : (nI p < 0) = False := n_ge0 (by omega)
  have hl : (12 ≤ p) = False := n_lef (by omega)
  simp only [w_C hw, w_R0 hw, w_R6 hw, w_R7 hw, w_C1 hw, w_L1 hw, w_C12 hw, w_L12 hw, w_rp hw (show p < 12 by omega), w_cp hw (show p < 12 by omega), bq_s, mS_c, mS_l, mS_r, mS_i, mS_j, mS_pi, mS_pj, lt_st, bq_s, bV_s, bI_s, bJ_s, bA_s, nz_0, nc_0, nz_1, nc_1, nz_2, nc_2, nz_3, nc_3, nz_4, nc_4, nz_5, nc_5, nz_6, nc_6, nz_7, nc_7, nz_8, nc_8, nz_9, nc_9, nz_10, nc_10, nz_11, nc_11, nz_12, nc_12, if_true, if_false, eq_self, true_and, and_true, false_or, or_false, true_or, or_true, false_and, and_false, not_true, not_false_eq_true, ne_eq, ite_self, ite_not, ↓reduceIte, hc, hz, hl, wI_ne (show w + 13 + p ≠ w + 12 by omega), f4, f5, f1, n_101, n_107, n_11, n_60, n_61, n_62, n_63, n_64, n_65]
  rw [k15 hw.l (w_C12 hw) (w_L12 hw) (hL.fr fun x h1 h2 => F1_6 x (by omega)) hW.nL, bI_s, lawV_ag hW fct_6]
set_option maxHeartbeats 2000000 in
theorem k85 (hw : isW w) (hW : WF s) (hL : RepL I (w + 7) s) (hp : p < nP s) (hf : ∀ f, f < 8 → I (w + 13 + p) f = pF s p f) (h9 : I (w + 13 + p) 9 = pF s p 8) : ∃ I', (∀ a, a ≠ w + 12 → a ≠ w + 13 + p → I' a = I a) ∧ (∀ f, f ≠ 10 → f ≠ 11 → I' (w + 13 + p) f = I (w + 13 + p) f) ∧ (isCp s p → I' (w + 13 + p) 10 = b2 (isVd s p) ∧ I' (w + 13 + p) 11 = b2 (isRs s p)) ∧ (¬ isCp s p → I' = I) ∧ am_cal (d + 5) 85 [.ref w, .int (nI p)] (mS I J) = some (none, mS I' J) := by
  have h12 := hW.nP.1
  have i0c : (nI (p)).toNatClampNeg = p := nI_clamp (by omega)
  have i0z : (nI (p) < 0) = False := n_ge0 (by omega)
  have i0l : (12 ≤ p) = False := n_lef (by omega)
  obtain ⟨h9e, hbe, hb1, hb2, hb0⟩ := hW.cb hp
  have f1 := hf 1 (by decide)
  have f4 := hf 4 (by decide)
  have f5 := hf 5 (by decide)
  by_cases hcp : isCp s p
  · have o5 : onE s (nI 5) (byE s p) p (nI 0) (nI 0) = lawV s (nI 5) (fct (pF s p 4) (nI p) (pF s p 4 - pF s p 5) (pF s p 1) (nI 0) (nI 0)) := by unfold onE; rw [hb2]
    have o6 : onE s (nI 6) (byE s p) p (nI 0) (nI 0) = lawV s (nI 6) (fct (pF s p 4) (nI p) (pF s p 4 - pF s p 5) (pF s p 1) (nI 0) (nI 0)) := by unfold onE; rw [hb2]
    have sl := onE_sl hW (e := byE s p) (p := p) (a := nI 0) (h := nI 0)
    have h149 : am_cal (d + 4) 149 [.int (pF s p 1)] (mS I J) = some (some (.int (nI 1)), mS I J) := by
      rw [c_149]
      rcases hcp with h | h | h <;> simp only [h, nn_0_1, nn_0_2, nn_0_3, nn_0_4, nn_0_5, nn_0_6, nn_0_7, nn_0_8, nn_1_0, nn_1_2, nn_1_3, nn_1_4, nn_1_5, nn_1_6, nn_1_7, nn_1_8, nn_2_0, nn_2_1, nn_2_3, nn_2_4, nn_2_5, nn_2_6, nn_2_7, nn_2_8, nn_3_0, nn_3_1, nn_3_2, nn_3_4, nn_3_5, nn_3_6, nn_3_7, nn_3_8, nn_4_0, nn_4_1, nn_4_2, nn_4_3, nn_4_5, nn_4_6, nn_4_7, nn_4_8, nn_5_0, nn_5_1, nn_5_2, nn_5_3, nn_5_4, nn_5_6, nn_5_7, nn_5_8, nn_6_0, nn_6_1, nn_6_2, nn_6_3, nn_6_4, nn_6_5, nn_6_7, nn_6_8, nn_7_0, nn_7_1, nn_7_2, nn_7_3, nn_7_4, nn_7_5, nn_7_6, nn_7_8, nn_8_0, nn_8_1, nn_8_2, nn_8_3, nn_8_4, nn_8_5, nn_8_6, nn_8_7, nq_0, nq_1, nq_2, nq_3, nq_4, nq_5, nq_6, nq_7, nq_8, bq_s, mS_c, mS_l, mS_r, mS_i, mS_j, mS_pi, mS_pj, lt_st, bq_s, bV_s, bI_s, bJ_s, bA_s, nz_0, nc_0, nz_1, nc_1, nz_2, nc_2, nz_3, nc_3, nz_4, nc_4, nz_5, nc_5, nz_6, nc_6, nz_7, nc_7, nz_8, nc_8, nz_9, nc_9, nz_10, nc_10, nz_11, nc_11, nz_12, nc_12, if_true, if_false, eq_self, true_and, and_true, false_or, or_false, true_or, or_true, false_and, and_false, not_true, not_false_eq_true, ne_eq, ite_self, ite_not, ↓reduceIte, n_101, n_107, n_11]
    have rowI : ∀ I1 : mI, F1 (w + 12) I1 I → I1 (w + 13 + p) = I (w + 13 + p) := fun I1 h => h _ (by omega)
    have rsv : pF s p 1 = nI 5 → ∀ {A B : am_R}, (if onE s (nI 6) (byE s p) p (nI 0) (nI 0) = 0 then A else B) = if b2 (isRs s p) = 0 then B else A := fun h5 {A B} => by
      rcases sl with h | h
      · rw [h, if_pos nI_0, if_b2t (show isRs s p from ⟨h5, by rw [h]; decide⟩)]
      · rw [h, if_neg (by decide), if_b2f (fun hh : isRs s p => hh.2 h)]
    -- behind the first question (whether he is void stands): at rest or not
    have tail : ∀ (I1 : mI) (X : Int32), F1 (w + 12) I1 I → X = b2 (isVd s p) → ∃ I', (∀ a, a ≠ w + 12 → a ≠ w + 13 + p → I' a = I a) ∧ (∀ f, f ≠ 10 → f ≠ 11 → I' (w + 13 + p) f = I (w + 13 + p) f) ∧ (I' (w + 13 + p) 10 = b2 (isVd s p) ∧ I' (w + 13 + p) 11 = b2 (isRs s p)) ∧
        (if pF s p 1 = nI 5 then am_bI (am_cal (d + 4) 86 [.ref w, .int (nI 6), .int (nI p), .int (pF s p 4), .int (nI 0), .int (nI 0)] (mS (wI I1 (w + 13 + p) 10 X) J)) (fun v S => if v = 0 then (if am_c S (w + 13 + p) = 7 then (am_lt (am_pi S (w + 13 + p) 11 (nI 1)) fun S => some (none, S)) else none) else (if am_c S (w + 13 + p) = 7 then (am_lt (am_pi S (w + 13 + p) 11 (nI 0)) fun S => some (none, S)) else none)) else some (none, mS (wI (wI I1 (w + 13 + p) 10 X) (w + 13 + p) 11 (nI 0)) J)) = some (none, mS I' J) := by
      intro I1 X hF1 hX
      have e1 : ∀ f, f ≠ 10 → wI I1 (w + 13 + p) 10 X (w + 13 + p) f = I (w + 13 + p) f := fun f hf' => by rw [wI_nk hf', hF1 _ (by omega)]
      by_cases h5 : pF s p 1 = nI 5
      · have hL1 : RepL (wI I1 (w + 13 + p) 10 X) (w + 7) s := hL.fr fun a h1 h2 => by rw [wI_F1 a (by omega), hF1 a (by omega)]
        obtain ⟨I2, hF2, hr2⟩ := k86g (d := d) (J := J) (key := nI 6) (y0 := pF s p 4) (a := nI 0) (h5 := nI 0) (I := wI I1 (w + 13 + p) 10 X) hw hW hL1 (show p < 12 by omega) (by rw [e1 4 (by decide)]; exact f4) (by rw [e1 5 (by decide)]; exact f5) (by rw [e1 1 (by decide)]; exact f1)
        rw [← o6] at hr2
        refine ⟨wI I2 (w + 13 + p) 11 (b2 (isRs s p)), fun a h1 h2 => by rw [wI_F1 a h2, hF2 a h1, wI_F1 a h2, hF1 a h1], fun f h1 h2 => by rw [wI_nk h2, hF2 _ (by omega), e1 f h1], ⟨by rw [wI_nk (by decide), hF2 _ (by omega), wI_eq]; exact hX, wI_eq⟩, ?_⟩
        rw [if_pos h5, hr2, bI_s, rsv h5]
        simp only [w_cp hw (show p < 12 by omega), bq_s, mS_c, mS_l, mS_r, mS_i, mS_j, mS_pi, mS_pj, lt_st, bq_s, bV_s, bI_s, bJ_s, bA_s, nz_0, nc_0, nz_1, nc_1, nz_2, nc_2, nz_3, nc_3, nz_4, nc_4, nz_5, nc_5, nz_6, nc_6, nz_7, nc_7, nz_8, nc_8, nz_9, nc_9, nz_10, nc_10, nz_11, nc_11, nz_12, nc_12, if_true, if_false, eq_self, true_and, and_true, false_or, or_false, true_or, or_true, false_and, and_false, not_true, not_false_eq_true, ne_eq, ite_self, ite_not, ↓reduceIte, n_101, n_107, n_11]
        by_cases hr : isRs s p
        · rw [if_b2t hr, b2_t hr]
        · rw [if_b2f hr, b2_f hr]
      · have hr0 : b2 (isRs s p) = nI 0 := b2_f (fun h => h5 h.1)
        refine ⟨wI (wI I1 (w + 13 + p) 10 X) (w + 13 + p) 11 (nI 0), fun a h1 h2 => by rw [wI_F1 a h2, wI_F1 a h2, hF1 a h1], fun f h1 h2 => by rw [wI_nk h2, e1 f h1], ⟨by rw [wI_nk (by decide), wI_eq]; exact hX, by rw [wI_eq, hr0]⟩, ?_⟩
        rw [if_neg h5]
    obtain ⟨I1, hF1, hr1⟩ := k86g (d := d) (J := J) (key := nI 5) (y0 := pF s p 4) (a := nI 0) (h5 := nI 0) (I := I) hw hW hL (show p < 12 by omega) f4 f5 f1
    rw [← o5] at hr1
    have nf : ∀ (I1 : mI), F1 (w + 12) I1 I → ∀ X, wI I1 (w + 13 + p) 10 X (w + 13 + p) 1 = pF s p 1 ∧ wI I1 (w + 13 + p) 10 X (w + 13 + p) 4 = pF s p 4 := fun I1 h X => by rw [wI_nk (by decide), wI_nk (by decide), rowI I1 h]; exact ⟨f1, f4⟩
    have rf : F1 (w + 12) I I := fun _ _ => rfl
    by_cases h8 : pF s p 8 = nI 0
    · by_cases hv : onE s (nI 5) (byE s p) p (nI 0) (nI 0) = nI 1
      · obtain ⟨I', t1, t2, t3, t4⟩ := tail I1 (nI 1) hF1 (b2_t (show isVd s p from ⟨hcp, h8, hv⟩)).symm
        refine ⟨I', t1, t2, fun _ => t3, fun h => absurd hcp h, ?_⟩
        rw [← t4, c_85 (w_C hw)]
        simp only [w_C hw, w_R0 hw, w_C1 hw, w_L1 hw, w_rp hw (show p < 12 by omega), w_cp hw (show p < 12 by omega), i0c, i0z, i0l, f1, h9, h149, n_101, nn_0_1, nn_0_2, nn_0_3, nn_0_4, nn_0_5, nn_0_6, nn_0_7, nn_0_8, nn_1_0, nn_1_2, nn_1_3, nn_1_4, nn_1_5, nn_1_6, nn_1_7, nn_1_8, nn_2_0, nn_2_1, nn_2_3, nn_2_4, nn_2_5, nn_2_6, nn_2_7, nn_2_8, nn_3_0, nn_3_1, nn_3_2, nn_3_4, nn_3_5, nn_3_6, nn_3_7, nn_3_8, nn_4_0, nn_4_1, nn_4_2, nn_4_3, nn_4_5, nn_4_6, nn_4_7, nn_4_8, nn_5_0, nn_5_1, nn_5_2, nn_5_3, nn_5_4, nn_5_6, nn_5_7, nn_5_8, nn_6_0, nn_6_1, nn_6_2, nn_6_3, nn_6_4, nn_6_5, nn_6_7, nn_6_8, nn_7_0, nn_7_1, nn_7_2, nn_7_3, nn_7_4, nn_7_5, nn_7_6, nn_7_8, nn_8_0, nn_8_1, nn_8_2, nn_8_3, nn_8_4, nn_8_5, nn_8_6, nn_8_7, nq_0, nq_1, nq_2, nq_3, nq_4, nq_5, nq_6, nq_7, nq_8, bq_s, mS_c, mS_l, mS_r, mS_i, mS_j, mS_pi, mS_pj, lt_st, bq_s, bV_s, bI_s, bJ_s, bA_s, nz_0, nc_0, nz_1, nc_1, nz_2, nc_2, nz_3, nc_3, nz_4, nc_4, nz_5, nc_5, nz_6, nc_6, nz_7, nc_7, nz_8, nc_8, nz_9, nc_9, nz_10, nc_10, nz_11, nc_11, nz_12, nc_12, if_true, if_false, eq_self, true_and, and_true, false_or, or_false, true_or, or_true, false_and, and_false, not_true, not_false_eq_true, ne_eq, ite_self, ite_not, ↓reduceIte, n_101, n_107, n_11, f4, h8, hr1, hv, (nf I1 hF1 (nI 1)).1, (nf I1 hF1 (nI 1)).2]
      · obtain ⟨I', t1, t2, t3, t4⟩ := tail I1 (nI 0) hF1 (b2_f (fun h : isVd s p => hv h.2.2)).symm
        refine ⟨I', t1, t2, fun _ => t3, fun h => absurd hcp h, ?_⟩
        rw [← t4, c_85 (w_C hw)]
        simp only [w_C hw, w_R0 hw, w_C1 hw, w_L1 hw, w_rp hw (show p < 12 by omega), w_cp hw (show p < 12 by omega), i0c, i0z, i0l, f1, h9, h149, n_101, nn_0_1, nn_0_2, nn_0_3, nn_0_4, nn_0_5, nn_0_6, nn_0_7, nn_0_8, nn_1_0, nn_1_2, nn_1_3, nn_1_4, nn_1_5, nn_1_6, nn_1_7, nn_1_8, nn_2_0, nn_2_1, nn_2_3, nn_2_4, nn_2_5, nn_2_6, nn_2_7, nn_2_8, nn_3_0, nn_3_1, nn_3_2, nn_3_4, nn_3_5, nn_3_6, nn_3_7, nn_3_8, nn_4_0, nn_4_1, nn_4_2, nn_4_3, nn_4_5, nn_4_6, nn_4_7, nn_4_8, nn_5_0, nn_5_1, nn_5_2, nn_5_3, nn_5_4, nn_5_6, nn_5_7, nn_5_8, nn_6_0, nn_6_1, nn_6_2, nn_6_3, nn_6_4, nn_6_5, nn_6_7, nn_6_8, nn_7_0, nn_7_1, nn_7_2, nn_7_3, nn_7_4, nn_7_5, nn_7_6, nn_7_8, nn_8_0, nn_8_1, nn_8_2, nn_8_3, nn_8_4, nn_8_5, nn_8_6, nn_8_7, nq_0, nq_1, nq_2, nq_3, nq_4, nq_5, nq_6, nq_7, nq_8, bq_s, mS_c, mS_l, mS_r, mS_i, mS_j, mS_pi, mS_pj, lt_st, bq_s, bV_s, bI_s, bJ_s, bA_s, nz_0, nc_0, nz_1, nc_1, nz_2, nc_2, nz_3, nc_3, nz_4, nc_4, nz_5, nc_5, nz_6, nc_6, nz_7, nc_7, nz_8, nc_8, nz_9, nc_9, nz_10, nc_10, nz_11, nc_11, nz_12, nc_12, if_true, if_false, eq_self, true_and, and_true, false_or, or_false, true_or, or_true, false_and, and_false, not_true, not_false_eq_true, ne_eq, ite_self, ite_not, ↓reduceIte, n_101, n_107, n_11, f4, h8, hr1, hv, (nf I1 hF1 (nI 0)).1, (nf I1 hF1 (nI 0)).2]
    · have h8' : (pF s p 8 = 0) = False := eq_false (by rw [n_i0]; exact h8)
      obtain ⟨I', t1, t2, t3, t4⟩ := tail I (nI 0) rf (b2_f (fun h : isVd s p => h8 h.2.1)).symm
      refine ⟨I', t1, t2, fun _ => t3, fun h => absurd hcp h, ?_⟩
      rw [← t4, c_85 (w_C hw)]
      simp only [w_C hw, w_R0 hw, w_C1 hw, w_L1 hw, w_rp hw (show p < 12 by omega), w_cp hw (show p < 12 by omega), i0c, i0z, i0l, f1, h9, h149, n_101, nn_0_1, nn_0_2, nn_0_3, nn_0_4, nn_0_5, nn_0_6, nn_0_7, nn_0_8, nn_1_0, nn_1_2, nn_1_3, nn_1_4, nn_1_5, nn_1_6, nn_1_7, nn_1_8, nn_2_0, nn_2_1, nn_2_3, nn_2_4, nn_2_5, nn_2_6, nn_2_7, nn_2_8, nn_3_0, nn_3_1, nn_3_2, nn_3_4, nn_3_5, nn_3_6, nn_3_7, nn_3_8, nn_4_0, nn_4_1, nn_4_2, nn_4_3, nn_4_5, nn_4_6, nn_4_7, nn_4_8, nn_5_0, nn_5_1, nn_5_2, nn_5_3, nn_5_4, nn_5_6, nn_5_7, nn_5_8, nn_6_0, nn_6_1, nn_6_2, nn_6_3, nn_6_4, nn_6_5, nn_6_7, nn_6_8, nn_7_0, nn_7_1, nn_7_2, nn_7_3, nn_7_4, nn_7_5, nn_7_6, nn_7_8, nn_8_0, nn_8_1, nn_8_2, nn_8_3, nn_8_4, nn_8_5, nn_8_6, nn_8_7, nq_0, nq_1, nq_2, nq_3, nq_4, nq_5, nq_6, nq_7, nq_8, bq_s, mS_c, mS_l, mS_r, mS_i, mS_j, mS_pi, mS_pj, lt_st, bq_s, bV_s, bI_s, bJ_s, bA_s, nz_0, nc_0, nz_1, nc_1, nz_2, nc_2, nz_3, nc_3, nz_4, nc_4, nz_5, nc_5, nz_6, nc_6, nz_7, nc_7, nz_8, nc_8, nz_9, nc_9, nz_10, nc_10, nz_11, nc_11, nz_12, nc_12, if_true, if_false, eq_self, true_and, and_true, false_or, or_false, true_or, or_true, false_and, and_false, not_true, not_false_eq_true, ne_eq, ite_self, ite_not, ↓reduceIte, n_101, n_107, n_11, h8', (nf I rf (nI 0)).1, (nf I rf (nI 0)).2]
  · have h149 : am_cal (d + 4) 149 [.int (pF s p 1)] (mS I J) = some (some (.int (nI 0)), mS I J) := by
      rw [c_149, if_neg (fun h => hcp (Or.inl h)), if_neg (fun h => hcp (Or.inr (Or.inl h))), if_neg (fun h => hcp (Or.inr (Or.inr h)))]
    refine ⟨I, fun _ _ _ => rfl, fun _ _ _ => rfl, fun h => absurd h hcp, fun _ => rfl, ?_⟩
    rw [c_85 (w_C hw)]
    simp only [w_C hw, w_R0 hw, w_C1 hw, w_L1 hw, w_rp hw (show p < 12 by omega), w_cp hw (show p < 12 by omega), i0c, i0z, i0l, f1, h149, n_101, nn_0_1, nn_0_2, nn_0_3, nn_0_4, nn_0_5, nn_0_6, nn_0_7, nn_0_8, nn_1_0, nn_1_2, nn_1_3, nn_1_4, nn_1_5, nn_1_6, nn_1_7, nn_1_8, nn_2_0, nn_2_1, nn_2_3, nn_2_4, nn_2_5, nn_2_6, nn_2_7, nn_2_8, nn_3_0, nn_3_1, nn_3_2, nn_3_4, nn_3_5, nn_3_6, nn_3_7, nn_3_8, nn_4_0, nn_4_1, nn_4_2, nn_4_3, nn_4_5, nn_4_6, nn_4_7, nn_4_8, nn_5_0, nn_5_1, nn_5_2, nn_5_3, nn_5_4, nn_5_6, nn_5_7, nn_5_8, nn_6_0, nn_6_1, nn_6_2, nn_6_3, nn_6_4, nn_6_5, nn_6_7, nn_6_8, nn_7_0, nn_7_1, nn_7_2, nn_7_3, nn_7_4, nn_7_5, nn_7_6, nn_7_8, nn_8_0, nn_8_1, nn_8_2, nn_8_3, nn_8_4, nn_8_5, nn_8_6, nn_8_7, nq_0, nq_1, nq_2, nq_3, nq_4, nq_5, nq_6, nq_7, nq_8, bq_s, mS_c, mS_l, mS_r, mS_i, mS_j, mS_pi, mS_pj, lt_st, bq_s, bV_s, bI_s, bJ_s, bA_s, nz_0, nc_0, nz_1, nc_1, nz_2, nc_2, nz_3, nc_3, nz_4, nc_4, nz_5, nc_5, nz_6, nc_6, nz_7, nc_7, nz_8, nc_8, nz_9, nc_9, nz_10, nc_10, nz_11, nc_11, nz_12, nc_12, if_true, if_false, eq_self, true_and, and_true, false_or, or_false, true_or, or_true, false_and, and_false, not_true, not_false_eq_true, ne_eq, ite_self, ite_not, ↓reduceIte, n_101, n_107, n_11]
end G2s
