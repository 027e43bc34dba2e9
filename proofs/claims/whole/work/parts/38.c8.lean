/-! ===== rooted; the model's votes ===== -/
section C8
variable {I : mI} {J : mJ} {w p q e c d l b g r : Nat} {s : Rw} {x y key day : Int32}
/-- whole votes, parted ones, by how many: as the class counts -/
noncomputable def wV (s : Rw) (r n : Nat) : Nat := if 1 < cR s r (nP s) then oV s r 1 n else oV s r 1 n + oV s r 2 n
noncomputable def pV (s : Rw) (r n : Nat) : Nat := if 1 < cR s r (nP s) then oV s r 2 n else 0
theorem k53 (h : Rep I 1 s) (hW : WF s) (hr : r < nP s) : ∃ I', FC I' I ∧ am_cal (g + 6) 53 [.ref 195, .int (nI r)] (mS I J) = some (some (.int (if oV s r 2 (nP s) = 0 then nI (oV s r 1 (nP s)) else nI (oV s r 1 (nP s)) + nI (oV s r 2 (nP s)) / nI (cR s r (nP s)))), mS I' J) := by
  have h12 := hW.nP.1
  have hcr := cR_le (s := s) (r := r) (nP s)
  have lp : ∀ n k (I1 : mI) (B : Nat), FC I1 I → k + n = nP s → (B = if pV s r k = 0 then 1 else cR s r (nP s)) → ∃ I', FC I' I ∧ am_X (am_cal (g + 5)) 53 8 [.ref 195, .int (nI r), .int (nI (wV s r k)), .int (nI (pV s r k)), .int (nI B), .int (nI k), .null] [] (mS I1 J) = some (some (.int (if oV s r 2 (nP s) = 0 then nI (oV s r 1 (nP s)) else nI (oV s r 1 (nP s)) + nI (oV s r 2 (nP s)) / nI (cR s r (nP s)))), mS I' J) := by
    intro n
    induction n with
    | zero =>
      intro k I1 B h1 hk hB
      have e : k = nP s := by omega
      subst e
      have h2 := FC.rep h hW h1
      have o1 := oV_le (s := s) (r := r) (v := 1) (nP s)
      have o2 := oV_le (s := s) (r := r) (v := 2) (nP s)
      refine ⟨I1, h1, ?_⟩
      have hB0 : B ≠ 0 ∧ B ≤ 12 := by
        rw [hB]
        split
        · omega
        · rename_i hp
          unfold pV at hp
          split at hp <;> omega
      rw [e_53_8]
      simp only [lc_195, lr_195_0, w_C W1, h2.ppl, hW.nP.2, n_lt (show nP s < 2 ^ 31 by omega) (show nP s < 2 ^ 31 by omega), n_ltf (Nat.le_refl _), bq_s, mS_c, mS_l, mS_r, mS_i, mS_j, mS_pi, mS_pj, lt_st, bq_s, bV_s, bI_s, bJ_s, bA_s, nz_0, nc_0, nz_1, nc_1, nz_2, nc_2, nz_3, nc_3, nz_4, nc_4, nz_5, nc_5, nz_6, nc_6, nz_7, nc_7, nz_8, nc_8, nz_9, nc_9, nz_10, nc_10, nz_11, nc_11, nz_12, nc_12, if_true, if_false, eq_self, true_and, and_true, false_or, or_false, true_or, or_true, false_and, and_false, not_true, not_false_eq_true, ne_eq, ite_self, ite_not, ↓reduceIte, n_101, n_107, n_11]
      rw [if_neg (nI_ne0 (by omega) (by omega))]
      refine congrArg (fun z => some (some (Value.int z), mS I1 J)) ?_
      by_cases hc : 1 < cR s r (nP s)
      · have ew : wV s r (nP s) = oV s r 1 (nP s) := if_pos hc
        have ep : pV s r (nP s) = oV s r 2 (nP s) := if_pos hc
        rw [ew, ep]
        rw [ep] at hB
        by_cases h0 : oV s r 2 (nP s) = 0
        · rw [if_pos h0, h0, pk_div (by decide) (by omega) (by omega), Nat.zero_div, nI_add, Nat.add_zero]
        · rw [if_neg h0]
          rw [if_neg h0] at hB
          rw [hB]
      · have ew : wV s r (nP s) = oV s r 1 (nP s) + oV s r 2 (nP s) := if_neg hc
        have ep : pV s r (nP s) = 0 := if_neg hc
        rw [ew, ep]
        rw [ep, if_pos rfl] at hB
        rw [hB, pk_div (by decide) (by decide) (by decide), Nat.zero_div, nI_add, Nat.add_zero]
        by_cases h0 : oV s r 2 (nP s) = 0
        · rw [if_pos h0, h0, Nat.add_zero]
        · rw [if_neg h0]
          obtain ⟨q, hq, hcd⟩ := oV2_pos (s := s) (r := r) (nP s) (by omega)
          have := cR_pos hcd (nP s) hq
          rw [show cR s r (nP s) = 1 by omega, pk_div (by omega) (by decide) (by decide), Nat.div_one, nI_add]
    | succ n ih =>
      intro k I1 B h1 hk hB
      have hkn : k < nP s := by omega
      have h2 := FC.rep h hW h1
      have rl := rt_lt hW (nP s) k hkn
      obtain ⟨I2, hF2, hr2⟩ := k52 (g := g) (J := J) h2 hW hkn
      have v2 := vt_le (s := s) (p := k)
      have e1 : ∀ v, root s k = r → vt s k = v → oV s r v (k + 1) = oV s r v k + 1 := fun v a b => by
        have hab : root s k = r ∧ vt s k = v := ⟨a, b⟩
        rw [oV_s, if_pos hab]
      have e0 : ∀ v, ¬ (root s k = r ∧ vt s k = v) → oV s r v (k + 1) = oV s r v k := fun v a => by rw [oV_s, if_neg a, Nat.add_zero]
      have ow := oV_le (s := s) (r := r) (v := 1) k
      have op := oV_le (s := s) (r := r) (v := 2) k
      rw [e_53_8]
      simp only [lc_195, lr_195_0, w_C W1, h2.ppl, hW.nP.2, n_lt (show k < 2 ^ 31 by omega) (show nP s < 2 ^ 31 by omega), n_ltt hkn, k89 W1 h2 hW hkn, n_eq (show rt s (nP s) k < 2 ^ 31 by omega) (show r < 2 ^ 31 by omega), hr2, nI_add, nn_0_1, nn_0_2, nn_0_3, nn_0_4, nn_0_5, nn_0_6, nn_0_7, nn_0_8, nn_1_0, nn_1_2, nn_1_3, nn_1_4, nn_1_5, nn_1_6, nn_1_7, nn_1_8, nn_2_0, nn_2_1, nn_2_3, nn_2_4, nn_2_5, nn_2_6, nn_2_7, nn_2_8, nn_3_0, nn_3_1, nn_3_2, nn_3_4, nn_3_5, nn_3_6, nn_3_7, nn_3_8, nn_4_0, nn_4_1, nn_4_2, nn_4_3, nn_4_5, nn_4_6, nn_4_7, nn_4_8, nn_5_0, nn_5_1, nn_5_2, nn_5_3, nn_5_4, nn_5_6, nn_5_7, nn_5_8, nn_6_0, nn_6_1, nn_6_2, nn_6_3, nn_6_4, nn_6_5, nn_6_7, nn_6_8, nn_7_0, nn_7_1, nn_7_2, nn_7_3, nn_7_4, nn_7_5, nn_7_6, nn_7_8, nn_8_0, nn_8_1, nn_8_2, nn_8_3, nn_8_4, nn_8_5, nn_8_6, nn_8_7, nq_0, nq_1, nq_2, nq_3, nq_4, nq_5, nq_6, nq_7, nq_8, show (nI 1 < nI 0) = False from eq_false (by decide), bq_s, mS_c, mS_l, mS_r, mS_i, mS_j, mS_pi, mS_pj, lt_st, bq_s, bV_s, bI_s, bJ_s, bA_s, nz_0, nc_0, nz_1, nc_1, nz_2, nc_2, nz_3, nc_3, nz_4, nc_4, nz_5, nc_5, nz_6, nc_6, nz_7, nc_7, nz_8, nc_8, nz_9, nc_9, nz_10, nc_10, nz_11, nc_11, nz_12, nc_12, if_true, if_false, eq_self, true_and, and_true, false_or, or_false, true_or, or_true, false_and, and_false, not_true, not_false_eq_true, ne_eq, ite_self, ite_not, ↓reduceIte, n_101, n_107, n_11]
      by_cases hrt : rt s (nP s) k = r
      · rw [if_pos hrt]
        have hrt' : root s k = r := hrt
        have bl : blw s k ≤ 12 := by
          unfold blw
          split
          · rw [hrt']; omega
          · omega
        simp only [n_eq (show blw s k < 2 ^ 31 by omega) (show 1 < 2 ^ 31 by decide), n_lt (show 1 < 2 ^ 31 by decide) (show blw s k < 2 ^ 31 by omega)]
        have nxt : ∀ (W P B' : Nat), W = wV s r (k + 1) → P = pV s r (k + 1) → (B' = if pV s r (k + 1) = 0 then 1 else cR s r (nP s)) → ∃ I', FC I' I ∧ am_X (am_cal (g + 5)) 53 8 [.ref 195, .int (nI r), .int (nI W), .int (nI P), .int (nI B'), .int (nI (k + 1)), .null] [] (mS I2 J) = some (some (.int (if oV s r 2 (nP s) = 0 then nI (oV s r 1 (nP s)) else nI (oV s r 1 (nP s)) + nI (oV s r 2 (nP s)) / nI (cR s r (nP s)))), mS I' J) := fun W P B' a b c => by
          rw [a, b]
          exact ih (k + 1) I2 B' (h1.tr hF2) (by omega) c
        rcases (show vt s k = 0 ∨ vt s k = 1 ∨ vt s k = 2 by omega) with ev | ev | ev
        · have eb : blw s k = 0 := by unfold blw; rw [ev]; rfl
          have w1 : wV s r (k + 1) = wV s r k := by unfold wV; rw [e0 1 (by omega), e0 2 (by omega)]
          have p1 : pV s r (k + 1) = pV s r k := by unfold pV; rw [e0 2 (by omega)]
          rw [eb, if_neg (by decide), if_neg (by decide)]
          exact nxt _ _ _ w1.symm p1.symm (by rw [p1]; exact hB)
        · have eb : blw s k = 1 := by unfold blw; rw [ev]; rfl
          have w1 : wV s r (k + 1) = wV s r k + 1 := by unfold wV; rw [e1 1 hrt' ev, e0 2 (by omega)]; split <;> omega
          have p1 : pV s r (k + 1) = pV s r k := by unfold pV; rw [e0 2 (by omega)]
          rw [eb, if_pos rfl, if_neg (by decide)]
          exact nxt _ _ _ w1.symm p1.symm (by rw [p1]; exact hB)
        · have eb : blw s k = cR s r (nP s) := by unfold blw; rw [ev, if_pos rfl, hrt']
          have hpos := cR_pos (show cdR s r k from ⟨vt2_c ev, hrt'⟩) (nP s) hkn
          by_cases hc : 1 < cR s r (nP s)
          · have w1 : wV s r (k + 1) = wV s r k := by unfold wV; rw [if_pos hc, if_pos hc, e0 1 (by omega)]
            have p1 : pV s r (k + 1) = pV s r k + 1 := by unfold pV; rw [if_pos hc, if_pos hc, e1 2 hrt' ev]
            rw [eb, if_neg (by omega), if_pos hc]
            exact nxt _ _ _ w1.symm p1.symm (by rw [p1, if_neg (by omega)])
          · have w1 : wV s r (k + 1) = wV s r k + 1 := by unfold wV; rw [if_neg hc, if_neg hc, e0 1 (by omega), e1 2 hrt' ev]; omega
            have p1 : pV s r (k + 1) = pV s r k := by unfold pV; rw [if_neg hc, if_neg hc]
            rw [eb, if_pos (by omega), if_neg hc]
            exact nxt _ _ _ w1.symm p1.symm (by rw [p1]; exact hB)
      · rw [if_neg hrt]
        have hrt' : ¬ root s k = r := hrt
        have w1 : wV s r (k + 1) = wV s r k := by unfold wV; rw [e0 1 (fun a => hrt' a.1), e0 2 (fun a => hrt' a.1)]
        have p1 : pV s r (k + 1) = pV s r k := by unfold pV; rw [e0 2 (fun a => hrt' a.1)]
        have := ih (k + 1) I1 B h1 (by omega) (by rw [p1]; exact hB)
        rw [w1, p1] at this
        exact this
  obtain ⟨I', hF, hh⟩ := lp (nP s) 0 I 1 FC.rf (by omega) (by unfold pV oV; split <;> rfl)
  refine ⟨I', hF, ?_⟩
  rw [c_53 lc_195]
  have w0 : wV s r 0 = 0 := by unfold wV oV; split <;> rfl
  have p0 : pV s r 0 = 0 := by unfold pV oV; split <;> rfl
  rw [w0, p0] at hh
  exact hh
theorem k114 (h : Rep I 1 s) (hW : WF s) : ∃ I', FC I' I ∧ am_cal (g + 7) 114 [.ref 0, .int x] (mS I J) = some (some (.int (v_root s x)), mS I' J) := by
  have h12 := hW.nP.1
  rw [c_114 lc_0]
  simp only [lc_0, lr_0_0, k65 W1 h, w_C W1, bq_s, mS_c, mS_l, mS_r, mS_i, mS_j, mS_pi, mS_pj, lt_st, bq_s, bV_s, bI_s, bJ_s, bA_s, nz_0, nc_0, nz_1, nc_1, nz_2, nc_2, nz_3, nc_3, nz_4, nc_4, nz_5, nc_5, nz_6, nc_6, nz_7, nc_7, nz_8, nc_8, nz_9, nc_9, nz_10, nc_10, nz_11, nc_11, nz_12, nc_12, if_true, if_false, eq_self, true_and, and_true, false_or, or_false, true_or, or_true, false_and, and_false, not_true, not_false_eq_true, ne_eq, ite_self, ite_not, ↓reduceIte, n_101, n_107, n_11]
  unfold v_root
  by_cases hx : isP s x
  · rw [if_pos hx, if_pos hx, if_neg (by decide)]
    obtain ⟨p, hp, rfl⟩ := isP_n hW hx
    have i0c : (nI (p)).toNatClampNeg = p := nI_clamp (by omega)
    have i0z : (nI (p) < 0) = False := n_ge0 (by omega)
    have i0l : (12 ≤ p) = False := n_lef (by omega)
    obtain ⟨I', hF, hr⟩ := k53 (g := g) (J := J) h hW hp
    simp only [w_R0 W1, w_C1 W1, w_L1 W1, w_rp W1 (show p < 12 by omega), w_cp W1 (show p < 12 by omega), i0c, i0z, i0l, h.pF hp (show 1 < 8 by decide), lr_0_6, hr, bq_s, mS_c, mS_l, mS_r, mS_i, mS_j, mS_pi, mS_pj, lt_st, bq_s, bV_s, bI_s, bJ_s, bA_s, nz_0, nc_0, nz_1, nc_1, nz_2, nc_2, nz_3, nc_3, nz_4, nc_4, nz_5, nc_5, nz_6, nc_6, nz_7, nc_7, nz_8, nc_8, nz_9, nc_9, nz_10, nc_10, nz_11, nc_11, nz_12, nc_12, if_true, if_false, eq_self, true_and, and_true, false_or, or_false, true_or, or_true, false_and, and_false, not_true, not_false_eq_true, ne_eq, ite_self, ite_not, ↓reduceIte, n_101, n_107, n_11]
    by_cases h1 : pF s p 1 = nI 1
    · refine ⟨I', hF, ?_⟩
      rw [if_pos h1, if_pos h1]
    · exact ⟨I, FC.rf, by rw [if_neg h1, if_neg h1]⟩
  · exact ⟨I, FC.rf, by rw [if_neg hx, if_neg hx, if_pos nI_0]⟩
/-! the model -/
theorem m230 (hW : WF (I 230)) (hr : r < nP (I 230)) : ∃ I', FM I' I ∧ I' 229 21 = nI (cR (I 230) r (nP (I 230))) ∧ I' 229 22 = lsD (I 230) r (nP (I 230)) (nP (I 230)) ∧ am_cal (g + 7) 230 [.ref 229, .int (nI r)] (mS I J) = some (none, mS I' J) := by
  have h12 := hW.nP.1
  have lp : ∀ k j (I1 : mI), FM I1 I → k + j = nP (I 230) → (∃ m, m + cR (I 230) r k = cR (I 230) r (nP (I 230)) ∧ I1 229 21 = nI m) → I1 229 22 = lsD (I 230) r (nP (I 230)) j → ∃ I', FM I' I ∧ I' 229 21 = nI (cR (I 230) r (nP (I 230))) ∧ I' 229 22 = lsD (I 230) r (nP (I 230)) (nP (I 230)) ∧ am_X (am_cal (g + 6)) 230 13 [.ref 229, .int (nI r), .int (nI k - nI 1)] [] (mS I1 J) = some (none, mS I' J) := by
    intro k
    induction k with
    | zero =>
      intro j I1 h1 hk hm hl
      obtain ⟨m, hm, hm2⟩ := hm
      refine ⟨I1, h1, by rw [hm2, ← hm]; rfl, by rw [hl, show j = nP (I 230) by omega], ?_⟩
      rw [e_230_13]
      simp only [neg1, bq_s, mS_c, mS_l, mS_r, mS_i, mS_j, mS_pi, mS_pj, lt_st, bq_s, bV_s, bI_s, bJ_s, bA_s, nz_0, nc_0, nz_1, nc_1, nz_2, nc_2, nz_3, nc_3, nz_4, nc_4, nz_5, nc_5, nz_6, nc_6, nz_7, nc_7, nz_8, nc_8, nz_9, nc_9, nz_10, nc_10, nz_11, nc_11, nz_12, nc_12, if_true, if_false, eq_self, true_and, and_true, false_or, or_false, true_or, or_true, false_and, and_false, not_true, not_false_eq_true, ne_eq, ite_self, ite_not, ↓reduceIte, n_101, n_107, n_11]
    | succ k ih =>
      intro j I1 h1 hk hm hl
      obtain ⟨m, hm, hm2⟩ := hm
      have f0 := h1.sr
      have hkn : k < nP (I 230) := by omega
      have rl := rt_lt hW (nP (I 230)) k hkn
      have cl := cR_le (s := I 230) (r := r) (nP (I 230))
      have hroot := m171 (d := g + 4) (J := J) (I := I1) (p := k) (by rw [f0]; exact hW) (by rw [f0]; exact hkn)
      rw [f0] at hroot
      obtain ⟨I2, h2, hc2⟩ := m218 (g := g) (J := J) (I := I1) (p := k) (by rw [f0]; exact hW) (by rw [f0]; exact hkn)
      rw [f0] at hc2
      have ek : nP (I 230) - 1 - j = k := by omega
      have skip : ∀ I3 : mI, FM I3 I → I3 229 21 = nI m → I3 229 22 = lsD (I 230) r (nP (I 230)) j → ¬ cdR (I 230) r k → ∃ I', FM I' I ∧ I' 229 21 = nI (cR (I 230) r (nP (I 230))) ∧ I' 229 22 = lsD (I 230) r (nP (I 230)) (nP (I 230)) ∧ am_X (am_cal (g + 6)) 230 13 [.ref 229, .int (nI r), .int (nI k - nI 1)] [] (mS I3 J) = some (none, mS I' J) := fun I3 h3 a b hn => ih (j + 1) I3 h3 (by omega) ⟨m, by rw [← hm, cR_f hn], a⟩ (by rw [b, lsD_f (by rw [ek]; exact hn)])
      rw [e_230_13, n_pred]
      simp only [n_ge0 (show k < 2 ^ 31 by omega), hroot, n_eq (show rt (I 230) (nP (I 230)) k < 2 ^ 31 by omega) (show r < 2 ^ 31 by omega), hc2, lc_229, lr_229_0, lc_230, ll_230, bq_s, mS_c, mS_l, mS_r, mS_i, mS_j, mS_pi, mS_pj, lt_st, bq_s, bV_s, bI_s, bJ_s, bA_s, nz_0, nc_0, nz_1, nc_1, nz_2, nc_2, nz_3, nc_3, nz_4, nc_4, nz_5, nc_5, nz_6, nc_6, nz_7, nc_7, nz_8, nc_8, nz_9, nc_9, nz_10, nc_10, nz_11, nc_11, nz_12, nc_12, if_true, if_false, eq_self, true_and, and_true, false_or, or_false, true_or, or_true, false_and, and_false, not_true, not_false_eq_true, ne_eq, ite_self, ite_not, ↓reduceIte]
      by_cases hrt : rt (I 230) (nP (I 230)) k = r
      · rw [if_pos hrt]
        have h3 := FM.f2 h2
        by_cases hc : cnd (I 230) k
        · rw [if_b2t hc]
          have hcd : cdR (I 230) r k := ⟨hc, hrt⟩
          have e21 : I2 229 21 = nI m := by rw [h2 229 (by decide) (by decide)]; exact hm2
          rw [e21, nI_add]
          have h4 : FM (wI (wI I2 229 21 (nI (m + 1))) 229 22 (nI k)) I := (h1.tr h3).tr ((FM.w9 (by decide)).tr (FM.w9 (by decide)))
          exact ih (j + 1) _ h4 (by omega) ⟨m + 1, by rw [cR_t hcd] at hm; omega, by rw [wI_nk (by decide), wI_eq]⟩ (by rw [wI_eq, lsD_t (by rw [ek]; exact hcd), ek])
        · rw [if_b2f hc]
          exact skip I2 (h1.tr h3) (by rw [h2 229 (by decide) (by decide)]; exact hm2) (by rw [h2 229 (by decide) (by decide)]; exact hl) (fun hh => hc hh.1)
      · rw [if_neg hrt]
        exact skip I1 h1 hm2 hl (fun hh => hrt hh.2)
  obtain ⟨I', hF, a21, a22, hh⟩ := lp (nP (I 230)) 0 (wI (wI I 229 21 (nI 0)) 229 22 (Int32.ofInt (-1))) ((FM.w9 (by decide)).tr (FM.w9 (by decide))) (by omega) ⟨0, by omega, by rw [wI_nk (by decide), wI_eq]⟩ (by rw [wI_eq]; rfl)
  refine ⟨I', hF, a21, a22, ?_⟩
  have e0 : ∀ (I1 : mI) (k : Nat) (v : Int32), wI I1 229 k v 230 = I1 230 := fun I1 k v => wI_F1 230 (by decide)
  rw [c_230 lc_229]
  simp only [e0, hW.nP.2, n_lef (show 1 < 546 by decide), lc_229, lr_229_0, lc_230, ll_230, bq_s, mS_c, mS_l, mS_r, mS_i, mS_j, mS_pi, mS_pj, lt_st, bq_s, bV_s, bI_s, bJ_s, bA_s, nz_0, nc_0, nz_1, nc_1, nz_2, nc_2, nz_3, nc_3, nz_4, nc_4, nz_5, nc_5, nz_6, nc_6, nz_7, nc_7, nz_8, nc_8, nz_9, nc_9, nz_10, nc_10, nz_11, nc_11, nz_12, nc_12, if_true, if_false, eq_self, true_and, and_true, false_or, or_false, true_or, or_true, false_and, and_false, not_true, not_false_eq_true, ne_eq, ite_self, ite_not, ↓reduceIte]
  exact hh
theorem m231 (hW : WF (I 230)) (hp : p < nP (I 230)) (hl : I 229 22 = lsD (I 230) (root (I 230) p) (nP (I 230)) (nP (I 230))) : ∃ I', F2 236 237 I' I ∧ am_cal (g + 7) 231 [.ref 229, .int (nI p)] (mS I J) = some (some (.int (nI (vt (I 230) p))), mS I' J) := by
  have h12 := hW.nP.1
  obtain ⟨I1, h1, hc1⟩ := m218 (g := g) (J := J) hW hp
  have f0 := h1 230 (by decide) (by decide)
  obtain ⟨I2, h2, hr2⟩ := m199 (d := g + 2) (J := J) (I := I1) (key := nI 3) (p := p) (by rw [f0]; exact hW) (by rw [f0]; exact hp)
  rw [f0] at hr2
  have hv : vlaw (I 230) p = lawV (I 230) (nI 3) (fct (I 230 0) (I 230 1) (nI 0) (pF (I 230) p 0) (nI 0) (nI 0)) := rfl
  rw [← hv] at hr2
  rw [c_231 lc_229]
  simp only [hc1, hr2, lc_229, lr_229_0, lc_230, ll_230, bq_s, mS_c, mS_l, mS_r, mS_i, mS_j, mS_pi, mS_pj, lt_st, bq_s, bV_s, bI_s, bJ_s, bA_s, nz_0, nc_0, nz_1, nc_1, nz_2, nc_2, nz_3, nc_3, nz_4, nc_4, nz_5, nc_5, nz_6, nc_6, nz_7, nc_7, nz_8, nc_8, nz_9, nc_9, nz_10, nc_10, nz_11, nc_11, nz_12, nc_12, if_true, if_false, eq_self, true_and, and_true, false_or, or_false, true_or, or_true, false_and, and_false, not_true, not_false_eq_true, ne_eq, ite_self, ite_not, ↓reduceIte]
  by_cases hc : cnd (I 230) p
  · refine ⟨I2, h1.tr h2, ?_⟩
    rw [if_b2t hc, vt_t hc]
    rcases lawV_23 hW (k := 3) (Or.inr rfl) (f := fct (I 230 0) (I 230 1) (nI 0) (pF (I 230) p 0) (nI 0) (nI 0)) with e | e | e
    · rw [← hv] at e
      simp only [e, nn_0_1, nn_0_2, nn_0_3, nn_0_4, nn_0_5, nn_0_6, nn_0_7, nn_0_8, nn_1_0, nn_1_2, nn_1_3, nn_1_4, nn_1_5, nn_1_6, nn_1_7, nn_1_8, nn_2_0, nn_2_1, nn_2_3, nn_2_4, nn_2_5, nn_2_6, nn_2_7, nn_2_8, nn_3_0, nn_3_1, nn_3_2, nn_3_4, nn_3_5, nn_3_6, nn_3_7, nn_3_8, nn_4_0, nn_4_1, nn_4_2, nn_4_3, nn_4_5, nn_4_6, nn_4_7, nn_4_8, nn_5_0, nn_5_1, nn_5_2, nn_5_3, nn_5_4, nn_5_6, nn_5_7, nn_5_8, nn_6_0, nn_6_1, nn_6_2, nn_6_3, nn_6_4, nn_6_5, nn_6_7, nn_6_8, nn_7_0, nn_7_1, nn_7_2, nn_7_3, nn_7_4, nn_7_5, nn_7_6, nn_7_8, nn_8_0, nn_8_1, nn_8_2, nn_8_3, nn_8_4, nn_8_5, nn_8_6, nn_8_7, nq_0, nq_1, nq_2, nq_3, nq_4, nq_5, nq_6, nq_7, nq_8, bq_s, mS_c, mS_l, mS_r, mS_i, mS_j, mS_pi, mS_pj, lt_st, bq_s, bV_s, bI_s, bJ_s, bA_s, nz_0, nc_0, nz_1, nc_1, nz_2, nc_2, nz_3, nc_3, nz_4, nc_4, nz_5, nc_5, nz_6, nc_6, nz_7, nc_7, nz_8, nc_8, nz_9, nc_9, nz_10, nc_10, nz_11, nc_11, nz_12, nc_12, if_true, if_false, eq_self, true_and, and_true, false_or, or_false, true_or, or_true, false_and, and_false, not_true, not_false_eq_true, ne_eq, ite_self, ite_not, ↓reduceIte, n_101, n_107, n_11]
    · rw [← hv] at e
      have f9 : I2 229 22 = lsD (I 230) (root (I 230) p) (nP (I 230)) (nP (I 230)) := by rw [h2 229 (by decide) (by decide), h1 229 (by decide) (by decide), hl]
      have li := lsD_iff (s := I 230) (r := root (I 230) p) h12 hp (nP (I 230)) (Nat.le_refl _)
      simp only [e, f9, nn_0_1, nn_0_2, nn_0_3, nn_0_4, nn_0_5, nn_0_6, nn_0_7, nn_0_8, nn_1_0, nn_1_2, nn_1_3, nn_1_4, nn_1_5, nn_1_6, nn_1_7, nn_1_8, nn_2_0, nn_2_1, nn_2_3, nn_2_4, nn_2_5, nn_2_6, nn_2_7, nn_2_8, nn_3_0, nn_3_1, nn_3_2, nn_3_4, nn_3_5, nn_3_6, nn_3_7, nn_3_8, nn_4_0, nn_4_1, nn_4_2, nn_4_3, nn_4_5, nn_4_6, nn_4_7, nn_4_8, nn_5_0, nn_5_1, nn_5_2, nn_5_3, nn_5_4, nn_5_6, nn_5_7, nn_5_8, nn_6_0, nn_6_1, nn_6_2, nn_6_3, nn_6_4, nn_6_5, nn_6_7, nn_6_8, nn_7_0, nn_7_1, nn_7_2, nn_7_3, nn_7_4, nn_7_5, nn_7_6, nn_7_8, nn_8_0, nn_8_1, nn_8_2, nn_8_3, nn_8_4, nn_8_5, nn_8_6, nn_8_7, nq_0, nq_1, nq_2, nq_3, nq_4, nq_5, nq_6, nq_7, nq_8, bq_s, mS_c, mS_l, mS_r, mS_i, mS_j, mS_pi, mS_pj, lt_st, bq_s, bV_s, bI_s, bJ_s, bA_s, nz_0, nc_0, nz_1, nc_1, nz_2, nc_2, nz_3, nc_3, nz_4, nc_4, nz_5, nc_5, nz_6, nc_6, nz_7, nc_7, nz_8, nc_8, nz_9, nc_9, nz_10, nc_10, nz_11, nc_11, nz_12, nc_12, if_true, if_false, eq_self, true_and, and_true, false_or, or_false, true_or, or_true, false_and, and_false, not_true, not_false_eq_true, ne_eq, ite_self, ite_not, ↓reduceIte, n_101, n_107, n_11]
      by_cases hls : lst (I 230) p
      · rw [if_pos (li.mpr ⟨by omega, ⟨hc, rfl⟩, fun q _ hq => hls q hq⟩), if_pos hls]
      · rw [if_neg (fun hh => hls fun q hq => (li.mp hh).2.2 q (by omega) hq), if_neg hls]
    · rw [← hv] at e
      simp only [e, nn_0_1, nn_0_2, nn_0_3, nn_0_4, nn_0_5, nn_0_6, nn_0_7, nn_0_8, nn_1_0, nn_1_2, nn_1_3, nn_1_4, nn_1_5, nn_1_6, nn_1_7, nn_1_8, nn_2_0, nn_2_1, nn_2_3, nn_2_4, nn_2_5, nn_2_6, nn_2_7, nn_2_8, nn_3_0, nn_3_1, nn_3_2, nn_3_4, nn_3_5, nn_3_6, nn_3_7, nn_3_8, nn_4_0, nn_4_1, nn_4_2, nn_4_3, nn_4_5, nn_4_6, nn_4_7, nn_4_8, nn_5_0, nn_5_1, nn_5_2, nn_5_3, nn_5_4, nn_5_6, nn_5_7, nn_5_8, nn_6_0, nn_6_1, nn_6_2, nn_6_3, nn_6_4, nn_6_5, nn_6_7, nn_6_8, nn_7_0, nn_7_1, nn_7_2, nn_7_3, nn_7_4, nn_7_5, nn_7_6, nn_7_8, nn_8_0, nn_8_1, nn_8_2, nn_8_3, nn_8_4, nn_8_5, nn_8_6, nn_8_7, nq_0, nq_1, nq_2, nq_3, nq_4, nq_5, nq_6, nq_7, nq_8, bq_s, mS_c, mS_l, mS_r, mS_i, mS_j, mS_pi, mS_pj, lt_st, bq_s, bV_s, bI_s, bJ_s, bA_s, nz_0, nc_0, nz_1, nc_1, nz_2, nc_2, nz_3, nc_3, nz_4, nc_4, nz_5, nc_5, nz_6, nc_6, nz_7, nc_7, nz_8, nc_8, nz_9, nc_9, nz_10, nc_10, nz_11, nc_11, nz_12, nc_12, if_true, if_false, eq_self, true_and, and_true, false_or, or_false, true_or, or_true, false_and, and_false, not_true, not_false_eq_true, ne_eq, ite_self, ite_not, ↓reduceIte, n_101, n_107, n_11]
  · refine ⟨I1, h1, ?_⟩
    rw [if_b2f hc, vt_f hc]
theorem m232 (hW : WF (I 230)) : ∃ I', FM I' I ∧ am_cal (g + 8) 232 [.ref 229, .int x, .int y] (mS I J) = some (some (.int (v_votes (I 230) x y)), mS I' J) := by
  have h12 := hW.nP.1
  rw [c_232 lc_229, m153 hW, bI_s]
  unfold v_votes
  by_cases hx : isP (I 230) x
  · rw [if_pos hx, if_pos hx, if_neg (by decide), m151 (by decide) (by decide), bI_s]
    by_cases hy : ¬ y < nI 0 ∧ ¬ nI 1 < y
    · rw [if_pos hy, if_neg (by decide)]
      rw [i2_in] at hy
      obtain ⟨p, hp, rfl⟩ := isP_n hW hx
      have rl := rt_lt hW (nP (I 230)) p hp
      obtain ⟨I1, h1, a21, a22, hr1⟩ := m230 (g := g) (J := J) hW rl
      have f0 := h1.sr
      obtain ⟨I2, h2, hr2⟩ := m231 (g := g) (J := J) (I := I1) (p := p) (by rw [f0]; exact hW) (by rw [f0]; exact hp) (by rw [f0]; exact a22)
      rw [f0] at hr2
      have v2 := vt_le (s := I 230) (p := p)
      have f9 : I2 229 21 = nI (cR (I 230) (root (I 230) p) (nP (I 230))) := by rw [h2 229 (by decide) (by decide)]; exact a21
      refine ⟨I2, h1.tr (FM.f2 h2), ?_⟩
      rw [m171 hW hp, bI_s, hr1, bV_s, hr2, bI_s, nI_clamp (by omega)]
      simp only [f9, lc_229, mS_c, mS_l, mS_r, mS_i, mS_j, mS_pi, mS_pj, lt_st, bq_s, bV_s, bI_s, bJ_s, bA_s]
      rcases (show vt (I 230) p = 0 ∨ vt (I 230) p = 1 ∨ vt (I 230) p = 2 by omega) with e | e | e
      · rcases hy with rfl | rfl <;> simp only [e, show (0 = 2) = False from eq_false (by decide), show (nI 0 < nI 0) = False from eq_false (by decide), show (0 < nI 0) = False from eq_false (by decide), nn_0_1, nn_0_2, nn_0_3, nn_0_4, nn_0_5, nn_0_6, nn_0_7, nn_0_8, nn_1_0, nn_1_2, nn_1_3, nn_1_4, nn_1_5, nn_1_6, nn_1_7, nn_1_8, nn_2_0, nn_2_1, nn_2_3, nn_2_4, nn_2_5, nn_2_6, nn_2_7, nn_2_8, nn_3_0, nn_3_1, nn_3_2, nn_3_4, nn_3_5, nn_3_6, nn_3_7, nn_3_8, nn_4_0, nn_4_1, nn_4_2, nn_4_3, nn_4_5, nn_4_6, nn_4_7, nn_4_8, nn_5_0, nn_5_1, nn_5_2, nn_5_3, nn_5_4, nn_5_6, nn_5_7, nn_5_8, nn_6_0, nn_6_1, nn_6_2, nn_6_3, nn_6_4, nn_6_5, nn_6_7, nn_6_8, nn_7_0, nn_7_1, nn_7_2, nn_7_3, nn_7_4, nn_7_5, nn_7_6, nn_7_8, nn_8_0, nn_8_1, nn_8_2, nn_8_3, nn_8_4, nn_8_5, nn_8_6, nn_8_7, nq_0, nq_1, nq_2, nq_3, nq_4, nq_5, nq_6, nq_7, nq_8, bq_s, mS_c, mS_l, mS_r, mS_i, mS_j, mS_pi, mS_pj, lt_st, bq_s, bV_s, bI_s, bJ_s, bA_s, nz_0, nc_0, nz_1, nc_1, nz_2, nc_2, nz_3, nc_3, nz_4, nc_4, nz_5, nc_5, nz_6, nc_6, nz_7, nc_7, nz_8, nc_8, nz_9, nc_9, nz_10, nc_10, nz_11, nc_11, nz_12, nc_12, if_true, if_false, eq_self, true_and, and_true, false_or, or_false, true_or, or_true, false_and, and_false, not_true, not_false_eq_true, ne_eq, ite_self, ite_not, ↓reduceIte, n_101, n_107, n_11]
      · rcases hy with rfl | rfl <;> simp only [e, show (1 = 2) = False from eq_false (by decide), show (1 = 0) = False from eq_false (by decide), show (0 < nI 1) = True from eq_true (by decide), nn_0_1, nn_0_2, nn_0_3, nn_0_4, nn_0_5, nn_0_6, nn_0_7, nn_0_8, nn_1_0, nn_1_2, nn_1_3, nn_1_4, nn_1_5, nn_1_6, nn_1_7, nn_1_8, nn_2_0, nn_2_1, nn_2_3, nn_2_4, nn_2_5, nn_2_6, nn_2_7, nn_2_8, nn_3_0, nn_3_1, nn_3_2, nn_3_4, nn_3_5, nn_3_6, nn_3_7, nn_3_8, nn_4_0, nn_4_1, nn_4_2, nn_4_3, nn_4_5, nn_4_6, nn_4_7, nn_4_8, nn_5_0, nn_5_1, nn_5_2, nn_5_3, nn_5_4, nn_5_6, nn_5_7, nn_5_8, nn_6_0, nn_6_1, nn_6_2, nn_6_3, nn_6_4, nn_6_5, nn_6_7, nn_6_8, nn_7_0, nn_7_1, nn_7_2, nn_7_3, nn_7_4, nn_7_5, nn_7_6, nn_7_8, nn_8_0, nn_8_1, nn_8_2, nn_8_3, nn_8_4, nn_8_5, nn_8_6, nn_8_7, nq_0, nq_1, nq_2, nq_3, nq_4, nq_5, nq_6, nq_7, nq_8, bq_s, mS_c, mS_l, mS_r, mS_i, mS_j, mS_pi, mS_pj, lt_st, bq_s, bV_s, bI_s, bJ_s, bA_s, nz_0, nc_0, nz_1, nc_1, nz_2, nc_2, nz_3, nc_3, nz_4, nc_4, nz_5, nc_5, nz_6, nc_6, nz_7, nc_7, nz_8, nc_8, nz_9, nc_9, nz_10, nc_10, nz_11, nc_11, nz_12, nc_12, if_true, if_false, eq_self, true_and, and_true, false_or, or_false, true_or, or_true, false_and, and_false, not_true, not_false_eq_true, ne_eq, ite_self, ite_not, ↓reduceIte, n_101, n_107, n_11]
      · rcases hy with rfl | rfl <;> simp only [e, show (2 = 0) = False from eq_false (by decide), show (0 < nI 2) = True from eq_true (by decide), nn_0_1, nn_0_2, nn_0_3, nn_0_4, nn_0_5, nn_0_6, nn_0_7, nn_0_8, nn_1_0, nn_1_2, nn_1_3, nn_1_4, nn_1_5, nn_1_6, nn_1_7, nn_1_8, nn_2_0, nn_2_1, nn_2_3, nn_2_4, nn_2_5, nn_2_6, nn_2_7, nn_2_8, nn_3_0, nn_3_1, nn_3_2, nn_3_4, nn_3_5, nn_3_6, nn_3_7, nn_3_8, nn_4_0, nn_4_1, nn_4_2, nn_4_3, nn_4_5, nn_4_6, nn_4_7, nn_4_8, nn_5_0, nn_5_1, nn_5_2, nn_5_3, nn_5_4, nn_5_6, nn_5_7, nn_5_8, nn_6_0, nn_6_1, nn_6_2, nn_6_3, nn_6_4, nn_6_5, nn_6_7, nn_6_8, nn_7_0, nn_7_1, nn_7_2, nn_7_3, nn_7_4, nn_7_5, nn_7_6, nn_7_8, nn_8_0, nn_8_1, nn_8_2, nn_8_3, nn_8_4, nn_8_5, nn_8_6, nn_8_7, nq_0, nq_1, nq_2, nq_3, nq_4, nq_5, nq_6, nq_7, nq_8, bq_s, mS_c, mS_l, mS_r, mS_i, mS_j, mS_pi, mS_pj, lt_st, bq_s, bV_s, bI_s, bJ_s, bA_s, nz_0, nc_0, nz_1, nc_1, nz_2, nc_2, nz_3, nc_3, nz_4, nc_4, nz_5, nc_5, nz_6, nc_6, nz_7, nc_7, nz_8, nc_8, nz_9, nc_9, nz_10, nc_10, nz_11, nc_11, nz_12, nc_12, if_true, if_false, eq_self, true_and, and_true, false_or, or_false, true_or, or_true, false_and, and_false, not_true, not_false_eq_true, ne_eq, ite_self, ite_not, ↓reduceIte, n_101, n_107, n_11]
    · refine ⟨I, FM.rf, ?_⟩
      rw [if_neg hy, if_pos nI_0, if_neg (fun e => hy (by rw [e]; decide)), if_neg (fun e => hy (by rw [e]; decide))]
  · exact ⟨I, FM.rf, by rw [if_neg hx, if_neg hx, if_pos nI_0]⟩
theorem m233 (hW : WF (I 230)) : ∃ I', FM I' I ∧ am_cal (g + 8) 233 [.ref 229, .int x] (mS I J) = some (some (.int (v_root (I 230) x)), mS I' J) := by
  have h12 := hW.nP.1
  rw [c_233 lc_229, m153 hW, bI_s]
  unfold v_root
  by_cases hx : isP (I 230) x
  · rw [if_pos hx, if_pos hx, if_neg (by decide)]
    obtain ⟨r, hr, rfl⟩ := isP_n hW hx
    rw [m152 (by omega) (by decide), bI_s, nI_clamp (by omega)]
    by_cases h1 : pF (I 230) r 1 = nI 1
    · rw [if_pos h1, if_pos h1]
      obtain ⟨I1, hF1, a21, a22, hr1⟩ := m230 (g := g) (J := J) hW hr
      rw [hr1, bV_s]
      have lp : ∀ n k (I2 : mI), FM I2 I → I2 229 21 = nI (cR (I 230) r (nP (I 230))) → I2 229 22 = lsD (I 230) r (nP (I 230)) (nP (I 230)) → k + n = nP (I 230) → ∃ I', FM I' I ∧ am_X (am_cal (g + 7)) 233 23 [.ref 229, .int (nI r), .int (nI (oV (I 230) r 1 k)), .int (nI (oV (I 230) r 2 k)), .int (nI k), .null] [] (mS I2 J) = some (some (.int (if oV (I 230) r 2 (nP (I 230)) = 0 then nI (oV (I 230) r 1 (nP (I 230))) else nI (oV (I 230) r 1 (nP (I 230))) + nI (oV (I 230) r 2 (nP (I 230))) / nI (cR (I 230) r (nP (I 230))))), mS I' J) := by
        intro n
        induction n with
        | zero =>
          intro k I2 h2 b21 b22 hk
          have e : k = nP (I 230) := by omega
          subst e
          have f0 := h2.sr
          have o2 := oV_le (s := I 230) (r := r) (v := 2) (nP (I 230))
          refine ⟨I2, h2, ?_⟩
          rw [e_233_23]
          simp only [f0, hW.nP.2, n_lt (show nP (I 230) < 2 ^ 31 by omega) (show nP (I 230) < 2 ^ 31 by omega), n_ltf (Nat.le_refl _), n_lef (show 1 < 546 by decide), b21, lc_229, lr_229_0, lc_230, ll_230, bq_s, mS_c, mS_l, mS_r, mS_i, mS_j, mS_pi, mS_pj, lt_st, bq_s, bV_s, bI_s, bJ_s, bA_s, nz_0, nc_0, nz_1, nc_1, nz_2, nc_2, nz_3, nc_3, nz_4, nc_4, nz_5, nc_5, nz_6, nc_6, nz_7, nc_7, nz_8, nc_8, nz_9, nc_9, nz_10, nc_10, nz_11, nc_11, nz_12, nc_12, if_true, if_false, eq_self, true_and, and_true, false_or, or_false, true_or, or_true, false_and, and_false, not_true, not_false_eq_true, ne_eq, ite_self, ite_not, ↓reduceIte]
          by_cases h0 : oV (I 230) r 2 (nP (I 230)) = 0
          · rw [h0, if_pos nI_0, if_pos rfl]
          · rw [if_neg (nI_ne0 (by omega) (by omega)), if_neg h0]
            obtain ⟨q, hq, hcd⟩ := oV2_pos (s := I 230) (r := r) (nP (I 230)) (by omega)
            have := cR_pos hcd (nP (I 230)) hq
            have := cR_le (s := I 230) (r := r) (nP (I 230))
            rw [if_neg (nI_ne0 (by omega) (by omega))]
        | succ n ih =>
          intro k I2 h2 b21 b22 hk
          have hkn : k < nP (I 230) := by omega
          have f0 := h2.sr
          have rl := rt_lt hW (nP (I 230)) k hkn
          have hroot := m171 (d := g + 5) (J := J) (I := I2) (p := k) (by rw [f0]; exact hW) (by rw [f0]; exact hkn)
          rw [f0] at hroot
          rw [e_233_23]
          simp only [f0, hW.nP.2, n_lt (show k < 2 ^ 31 by omega) (show nP (I 230) < 2 ^ 31 by omega), n_ltt hkn, n_lef (show 1 < 546 by decide), hroot, n_eq (show rt (I 230) (nP (I 230)) k < 2 ^ 31 by omega) (show r < 2 ^ 31 by omega), nI_add, Nat.add_zero, nn_0_1, nn_0_2, nn_0_3, nn_0_4, nn_0_5, nn_0_6, nn_0_7, nn_0_8, nn_1_0, nn_1_2, nn_1_3, nn_1_4, nn_1_5, nn_1_6, nn_1_7, nn_1_8, nn_2_0, nn_2_1, nn_2_3, nn_2_4, nn_2_5, nn_2_6, nn_2_7, nn_2_8, nn_3_0, nn_3_1, nn_3_2, nn_3_4, nn_3_5, nn_3_6, nn_3_7, nn_3_8, nn_4_0, nn_4_1, nn_4_2, nn_4_3, nn_4_5, nn_4_6, nn_4_7, nn_4_8, nn_5_0, nn_5_1, nn_5_2, nn_5_3, nn_5_4, nn_5_6, nn_5_7, nn_5_8, nn_6_0, nn_6_1, nn_6_2, nn_6_3, nn_6_4, nn_6_5, nn_6_7, nn_6_8, nn_7_0, nn_7_1, nn_7_2, nn_7_3, nn_7_4, nn_7_5, nn_7_6, nn_7_8, nn_8_0, nn_8_1, nn_8_2, nn_8_3, nn_8_4, nn_8_5, nn_8_6, nn_8_7, nq_0, nq_1, nq_2, nq_3, nq_4, nq_5, nq_6, nq_7, nq_8, lc_229, lr_229_0, lc_230, ll_230, bq_s, mS_c, mS_l, mS_r, mS_i, mS_j, mS_pi, mS_pj, lt_st, bq_s, bV_s, bI_s, bJ_s, bA_s, nz_0, nc_0, nz_1, nc_1, nz_2, nc_2, nz_3, nc_3, nz_4, nc_4, nz_5, nc_5, nz_6, nc_6, nz_7, nc_7, nz_8, nc_8, nz_9, nc_9, nz_10, nc_10, nz_11, nc_11, nz_12, nc_12, if_true, if_false, eq_self, true_and, and_true, false_or, or_false, true_or, or_true, false_and, and_false, not_true, not_false_eq_true, ne_eq, ite_self, ite_not, ↓reduceIte]
          by_cases hrt : rt (I 230) (nP (I 230)) k = r
          · have hrt' : root (I 230) k = r := hrt
            obtain ⟨I3, h3, hr3⟩ := m231 (g := g) (J := J) (I := I2) (p := k) (by rw [f0]; exact hW) (by rw [f0]; exact hkn) (by rw [f0, hrt']; exact b22)
            rw [f0] at hr3
            rw [if_pos hrt, hr3, bI_s]
            have v2 := vt_le (s := I 230) (p := k)
            have ih := ih (k + 1) I3 (h2.tr (FM.f2 h3)) (by rw [h3 229 (by decide) (by decide)]; exact b21) (by rw [h3 229 (by decide) (by decide)]; exact b22) (by omega)
            rw [oV_s, oV_s] at ih
            rcases (show vt (I 230) k = 0 ∨ vt (I 230) k = 1 ∨ vt (I 230) k = 2 by omega) with e | e | e
            · rw [e] at ih ⊢
              simp only [hrt', show (0 = 1) = False from eq_false (by decide), show (0 = 2) = False from eq_false (by decide), Nat.add_zero, nn_0_1, nn_0_2, nn_0_3, nn_0_4, nn_0_5, nn_0_6, nn_0_7, nn_0_8, nn_1_0, nn_1_2, nn_1_3, nn_1_4, nn_1_5, nn_1_6, nn_1_7, nn_1_8, nn_2_0, nn_2_1, nn_2_3, nn_2_4, nn_2_5, nn_2_6, nn_2_7, nn_2_8, nn_3_0, nn_3_1, nn_3_2, nn_3_4, nn_3_5, nn_3_6, nn_3_7, nn_3_8, nn_4_0, nn_4_1, nn_4_2, nn_4_3, nn_4_5, nn_4_6, nn_4_7, nn_4_8, nn_5_0, nn_5_1, nn_5_2, nn_5_3, nn_5_4, nn_5_6, nn_5_7, nn_5_8, nn_6_0, nn_6_1, nn_6_2, nn_6_3, nn_6_4, nn_6_5, nn_6_7, nn_6_8, nn_7_0, nn_7_1, nn_7_2, nn_7_3, nn_7_4, nn_7_5, nn_7_6, nn_7_8, nn_8_0, nn_8_1, nn_8_2, nn_8_3, nn_8_4, nn_8_5, nn_8_6, nn_8_7, nq_0, nq_1, nq_2, nq_3, nq_4, nq_5, nq_6, nq_7, nq_8, bq_s, mS_c, mS_l, mS_r, mS_i, mS_j, mS_pi, mS_pj, lt_st, bq_s, bV_s, bI_s, bJ_s, bA_s, nz_0, nc_0, nz_1, nc_1, nz_2, nc_2, nz_3, nc_3, nz_4, nc_4, nz_5, nc_5, nz_6, nc_6, nz_7, nc_7, nz_8, nc_8, nz_9, nc_9, nz_10, nc_10, nz_11, nc_11, nz_12, nc_12, if_true, if_false, eq_self, true_and, and_true, false_or, or_false, true_or, or_true, false_and, and_false, not_true, not_false_eq_true, ne_eq, ite_self, ite_not, ↓reduceIte, n_101, n_107, n_11] at ih ⊢
              exact ih
            · rw [e] at ih ⊢
              simp only [hrt', show (1 = 2) = False from eq_false (by decide), Nat.add_zero, nn_0_1, nn_0_2, nn_0_3, nn_0_4, nn_0_5, nn_0_6, nn_0_7, nn_0_8, nn_1_0, nn_1_2, nn_1_3, nn_1_4, nn_1_5, nn_1_6, nn_1_7, nn_1_8, nn_2_0, nn_2_1, nn_2_3, nn_2_4, nn_2_5, nn_2_6, nn_2_7, nn_2_8, nn_3_0, nn_3_1, nn_3_2, nn_3_4, nn_3_5, nn_3_6, nn_3_7, nn_3_8, nn_4_0, nn_4_1, nn_4_2, nn_4_3, nn_4_5, nn_4_6, nn_4_7, nn_4_8, nn_5_0, nn_5_1, nn_5_2, nn_5_3, nn_5_4, nn_5_6, nn_5_7, nn_5_8, nn_6_0, nn_6_1, nn_6_2, nn_6_3, nn_6_4, nn_6_5, nn_6_7, nn_6_8, nn_7_0, nn_7_1, nn_7_2, nn_7_3, nn_7_4, nn_7_5, nn_7_6, nn_7_8, nn_8_0, nn_8_1, nn_8_2, nn_8_3, nn_8_4, nn_8_5, nn_8_6, nn_8_7, nq_0, nq_1, nq_2, nq_3, nq_4, nq_5, nq_6, nq_7, nq_8, bq_s, mS_c, mS_l, mS_r, mS_i, mS_j, mS_pi, mS_pj, lt_st, bq_s, bV_s, bI_s, bJ_s, bA_s, nz_0, nc_0, nz_1, nc_1, nz_2, nc_2, nz_3, nc_3, nz_4, nc_4, nz_5, nc_5, nz_6, nc_6, nz_7, nc_7, nz_8, nc_8, nz_9, nc_9, nz_10, nc_10, nz_11, nc_11, nz_12, nc_12, if_true, if_false, eq_self, true_and, and_true, false_or, or_false, true_or, or_true, false_and, and_false, not_true, not_false_eq_true, ne_eq, ite_self, ite_not, ↓reduceIte, n_101, n_107, n_11] at ih ⊢
              exact ih
            · rw [e] at ih ⊢
              simp only [hrt', show (2 = 1) = False from eq_false (by decide), Nat.add_zero, nn_0_1, nn_0_2, nn_0_3, nn_0_4, nn_0_5, nn_0_6, nn_0_7, nn_0_8, nn_1_0, nn_1_2, nn_1_3, nn_1_4, nn_1_5, nn_1_6, nn_1_7, nn_1_8, nn_2_0, nn_2_1, nn_2_3, nn_2_4, nn_2_5, nn_2_6, nn_2_7, nn_2_8, nn_3_0, nn_3_1, nn_3_2, nn_3_4, nn_3_5, nn_3_6, nn_3_7, nn_3_8, nn_4_0, nn_4_1, nn_4_2, nn_4_3, nn_4_5, nn_4_6, nn_4_7, nn_4_8, nn_5_0, nn_5_1, nn_5_2, nn_5_3, nn_5_4, nn_5_6, nn_5_7, nn_5_8, nn_6_0, nn_6_1, nn_6_2, nn_6_3, nn_6_4, nn_6_5, nn_6_7, nn_6_8, nn_7_0, nn_7_1, nn_7_2, nn_7_3, nn_7_4, nn_7_5, nn_7_6, nn_7_8, nn_8_0, nn_8_1, nn_8_2, nn_8_3, nn_8_4, nn_8_5, nn_8_6, nn_8_7, nq_0, nq_1, nq_2, nq_3, nq_4, nq_5, nq_6, nq_7, nq_8, bq_s, mS_c, mS_l, mS_r, mS_i, mS_j, mS_pi, mS_pj, lt_st, bq_s, bV_s, bI_s, bJ_s, bA_s, nz_0, nc_0, nz_1, nc_1, nz_2, nc_2, nz_3, nc_3, nz_4, nc_4, nz_5, nc_5, nz_6, nc_6, nz_7, nc_7, nz_8, nc_8, nz_9, nc_9, nz_10, nc_10, nz_11, nc_11, nz_12, nc_12, if_true, if_false, eq_self, true_and, and_true, false_or, or_false, true_or, or_true, false_and, and_false, not_true, not_false_eq_true, ne_eq, ite_self, ite_not, ↓reduceIte, n_101, n_107, n_11] at ih ⊢
              exact ih
          · have hrt' : ¬ root (I 230) k = r := hrt
            rw [if_neg hrt]
            have ih := ih (k + 1) I2 h2 b21 b22 (by omega)
            rw [oV_s, oV_s, if_neg (fun a => hrt' a.1), if_neg (fun a => hrt' a.1)] at ih
            exact ih
      exact lp (nP (I 230)) 0 I1 hF1 a21 a22 (by omega) |>.imp fun I' hh => ⟨hh.1, hh.2⟩
    · exact ⟨I, FM.rf, by rw [if_neg h1, if_neg h1]⟩
  · exact ⟨I, FM.rf, by rw [if_neg hx, if_neg hx, if_pos nI_0]⟩
end C8
