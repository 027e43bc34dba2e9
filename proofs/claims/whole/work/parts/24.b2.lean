/-! the model -/
section B2
variable {I : mI} {J : mJ} {w p q e c d : Nat} {s : Rw} {x : Int32}
theorem m151 {a b : Nat} (ha : a < 2 ^ 31) (hb : b < 2 ^ 31) : am_cal (d + 1) 151 [.long x.toInt64, .long (lN a), .long (lN b)] (mS I J) = some (some (.int (if ¬ x < nI a ∧ ¬ nI b < x then nI 1 else nI 0)), mS I J) := by
  rw [c_151]
  simp (disch := first | assumption | omega) only [if_true, if_false, eq_self, true_and, and_true, false_or, or_false, true_or, or_true, false_and, and_false, not_true, not_false_eq_true, ne_eq, ite_self, ite_not, ↓reduceIte, l_lt, l_gt, w_ltn, w_nlt]
  by_cases h1 : x < nI a <;> by_cases h2 : nI b < x <;> simp only [h1, h2, if_true, if_false, eq_self, true_and, and_true, false_or, or_false, true_or, or_true, false_and, and_false, not_true, not_false_eq_true, ne_eq, ite_self, ite_not, ↓reduceIte]
theorem m151h {y : Int32} : am_cal (d + 1) 151 [.long x.toInt64, .long (lN 0), .long y.toInt64] (mS I J) = some (some (.int (if ¬ x < 0 ∧ ¬ y < x then nI 1 else nI 0)), mS I J) := by
  rw [c_151]
  simp (disch := first | assumption | omega) only [if_true, if_false, eq_self, true_and, and_true, false_or, or_false, true_or, or_true, false_and, and_false, not_true, not_false_eq_true, ne_eq, ite_self, ite_not, ↓reduceIte, l_lt, l_gt, w_ltn, w_lt, ← n_i0]
  by_cases h1 : x < 0 <;> by_cases h2 : y < x <;> simp only [h1, h2, if_true, if_false, eq_self, true_and, and_true, false_or, or_false, true_or, or_true, false_and, and_false, not_true, not_false_eq_true, ne_eq, ite_self, ite_not, ↓reduceIte]
theorem nlt_pred {x y : Int32} {n : Nat} (hn : n < 2 ^ 31) (hy : y = nI n) (h0 : ¬ x < 0) : (¬ y - nI 1 < x) = (x < y) := by
  subst hy
  obtain ⟨j, hj, rfl⟩ := nI_of h0
  cases n with
  | zero =>
    have h1 : ¬ nI j < nI 0 := fun h => Nat.not_lt_zero j ((nI_ltI hj (by decide)).mp h)
    have h2 : nI 0 - nI 1 < nI j := by
      rw [Int32.lt_iff_toInt_lt, nI_toInt hj, show (nI 0 - nI 1).toInt = -1 by decide +kernel]
      omega
    exact propext ⟨fun h => absurd h2 h, fun h => absurd h h1⟩
  | succ n =>
    rw [n_sub (by omega), show n + 1 - 1 = n from rfl, n_lt (by omega) hj, n_lt hj hn]
    exact propext ⟨fun h => by omega, fun h => by omega⟩
theorem m152 {f : Nat} (hp : p < 12) (hf : f < 10) : am_cal (d + 1) 152 [.ref 229, .int (nI p), .int (nI f)] (mS I J) = some (some (.int (pF (I 230) p f)), mS I J) := by
  rw [c_152 lc_229]
  simp (disch := first | assumption | omega) only [mS_c, mS_l, mS_r, mS_i, mS_j, mS_pi, mS_pj, lt_st, bq_s, bV_s, bI_s, bJ_s, bA_s, lc_229, lr_229_0, lc_230, ll_230, nI_add, nI_clamp, n_ge0, n_lt, n_eq, pk_mul, n_lef, n_let, n_ltf, n_ltt, Nat.reduceLeDiff, Nat.reduceEqDiff, Nat.reduceAdd, Nat.reduceMul, Nat.reduceSub, if_true, if_false, eq_self, true_and, and_true, false_or, or_false, true_or, or_true, false_and, and_false, not_true, not_false_eq_true, ne_eq, ite_self, ite_not, ↓reduceIte, pF]
theorem m153 (hW : WF (I 230)) : am_cal (d + 2) 153 [.ref 229, .int x] (mS I J) = some (some (.int (if isP (I 230) x then nI 1 else nI 0)), mS I J) := by
  rw [c_153 lc_229]
  simp (disch := first | assumption | omega) only [mS_c, mS_l, mS_r, mS_i, mS_j, mS_pi, mS_pj, lt_st, bq_s, bV_s, bI_s, bJ_s, bA_s, lc_229, lr_229_0, lc_230, ll_230, nI_add, nI_clamp, n_ge0, n_lt, n_eq, pk_mul, n_lef, n_let, n_ltf, n_ltt, Nat.reduceLeDiff, Nat.reduceEqDiff, Nat.reduceAdd, Nat.reduceMul, Nat.reduceSub, if_true, if_false, eq_self, true_and, and_true, false_or, or_false, true_or, or_true, false_and, and_false, not_true, not_false_eq_true, ne_eq, ite_self, ite_not, ↓reduceIte, m151h, ite_b01]
  by_cases h0 : x < 0
  · simp only [h0, isP, if_true, if_false, eq_self, true_and, and_true, false_or, or_false, true_or, or_true, false_and, and_false, not_true, not_false_eq_true, ne_eq, ite_self, ite_not, ↓reduceIte]
  · have := hW.nP.1
    simp only [h0, isP, if_true, if_false, eq_self, true_and, and_true, false_or, or_false, true_or, or_true, false_and, and_false, not_true, not_false_eq_true, ne_eq, ite_self, ite_not, ↓reduceIte, nlt_pred (by omega) hW.nP.2 h0]
theorem m203 (hW : WF (I 230)) : am_cal (d + 2) 203 [.ref 229, .int x] (mS I J) = some (some (.int (if isCl (I 230) x then nI 1 else nI 0)), mS I J) := by
  rw [c_203 lc_229]
  simp (disch := first | assumption | omega) only [mS_c, mS_l, mS_r, mS_i, mS_j, mS_pi, mS_pj, lt_st, bq_s, bV_s, bI_s, bJ_s, bA_s, lc_229, lr_229_0, lc_230, ll_230, nI_add, nI_clamp, n_ge0, n_lt, n_eq, pk_mul, n_lef, n_let, n_ltf, n_ltt, Nat.reduceLeDiff, Nat.reduceEqDiff, Nat.reduceAdd, Nat.reduceMul, Nat.reduceSub, if_true, if_false, eq_self, true_and, and_true, false_or, or_false, true_or, or_true, false_and, and_false, not_true, not_false_eq_true, ne_eq, ite_self, ite_not, ↓reduceIte, m151h, ite_b01]
  by_cases h0 : x < 0
  · simp only [h0, isCl, if_true, if_false, eq_self, true_and, and_true, false_or, or_false, true_or, or_true, false_and, and_false, not_true, not_false_eq_true, ne_eq, ite_self, ite_not, ↓reduceIte]
  · have := hW.nC.1
    simp only [h0, isCl, if_true, if_false, eq_self, true_and, and_true, false_or, or_false, true_or, or_true, false_and, and_false, not_true, not_false_eq_true, ne_eq, ite_self, ite_not, ↓reduceIte, nlt_pred (by omega) hW.nC.2 h0]
theorem m214 (hW : WF (I 230)) : am_cal (d + 2) 214 [.ref 229, .int x] (mS I J) = some (some (.int (if isDd (I 230) x then nI 1 else nI 0)), mS I J) := by
  rw [c_214 lc_229]
  simp (disch := first | assumption | omega) only [mS_c, mS_l, mS_r, mS_i, mS_j, mS_pi, mS_pj, lt_st, bq_s, bV_s, bI_s, bJ_s, bA_s, lc_229, lr_229_0, lc_230, ll_230, nI_add, nI_clamp, n_ge0, n_lt, n_eq, pk_mul, n_lef, n_let, n_ltf, n_ltt, Nat.reduceLeDiff, Nat.reduceEqDiff, Nat.reduceAdd, Nat.reduceMul, Nat.reduceSub, if_true, if_false, eq_self, true_and, and_true, false_or, or_false, true_or, or_true, false_and, and_false, not_true, not_false_eq_true, ne_eq, ite_self, ite_not, ↓reduceIte, m151h, ite_b01]
  by_cases h0 : x < 0
  · simp only [h0, isDd, if_true, if_false, eq_self, true_and, and_true, false_or, or_false, true_or, or_true, false_and, and_false, not_true, not_false_eq_true, ne_eq, ite_self, ite_not, ↓reduceIte]
  · have := hW.nD.1
    simp only [h0, isDd, if_true, if_false, eq_self, true_and, and_true, false_or, or_false, true_or, or_true, false_and, and_false, not_true, not_false_eq_true, ne_eq, ite_self, ite_not, ↓reduceIte, nlt_pred (by omega) hW.nD.2 h0]
theorem m154 (hp : p < 12) : am_cal (d + 2) 154 [.ref 229, .int (nI p)] (mS I J) = some (some (.int (if isAw (I 230) p then nI 1 else nI 0)), mS I J) := by
  rw [c_154 lc_229]
  simp (disch := first | assumption | omega) only [mS_c, mS_l, mS_r, mS_i, mS_j, mS_pi, mS_pj, lt_st, bq_s, bV_s, bI_s, bJ_s, bA_s, m152, nI_add, nI_clamp, n_ge0, n_lt, n_eq, pk_mul, n_lef, n_let, n_ltf, n_ltt, Nat.reduceLeDiff, Nat.reduceEqDiff, Nat.reduceAdd, Nat.reduceMul, Nat.reduceSub, if_true, if_false, eq_self, true_and, and_true, false_or, or_false, true_or, or_true, false_and, and_false, not_true, not_false_eq_true, ne_eq, ite_self, ite_not, ↓reduceIte, m151, ite_b01]
theorem m155 (hp : p < 12) : am_cal (d + 2) 155 [.ref 229, .int (nI p)] (mS I J) = some (some (.int (if isCp (I 230) p then nI 1 else nI 0)), mS I J) := by
  rw [c_155 lc_229]
  simp (disch := first | assumption | omega) only [mS_c, mS_l, mS_r, mS_i, mS_j, mS_pi, mS_pj, lt_st, bq_s, bV_s, bI_s, bJ_s, bA_s, m152, nI_add, nI_clamp, n_ge0, n_lt, n_eq, pk_mul, n_lef, n_let, n_ltf, n_ltt, Nat.reduceLeDiff, Nat.reduceEqDiff, Nat.reduceAdd, Nat.reduceMul, Nat.reduceSub, if_true, if_false, eq_self, true_and, and_true, false_or, or_false, true_or, or_true, false_and, and_false, not_true, not_false_eq_true, ne_eq, ite_self, ite_not, ↓reduceIte, isCp]
  by_cases h1 : pF (I 230) p 1 = nI 2 <;> by_cases h2 : pF (I 230) p 1 = nI 3 <;> by_cases h3 : pF (I 230) p 1 = nI 5 <;> simp only [h1, h2, h3, if_true, if_false, eq_self, true_and, and_true, false_or, or_false, true_or, or_true, false_and, and_false, not_true, not_false_eq_true, ne_eq, ite_self, ite_not, ↓reduceIte]
theorem m156 (hW : WF (I 230)) : am_cal (d + 3) 156 [.ref 229] (mS I J) = some (some (.int (nI (awk (I 230)))), mS I J) := by
  have h12 := hW.nP.1
  have lp : ∀ (n p a : Nat), p + n = nP (I 230) → am_X (am_cal (d + 2)) 156 4 [.ref 229, .int (nI a), .int (nI p)] [] (mS I J) = some (some (.int (nI (a + cntA (I 230) n p))), mS I J) := by
    intro n
    induction n with
    | zero =>
      intro p a hp
      rw [e_156_4]
      simp (disch := first | assumption | omega) only [mS_c, mS_l, mS_r, mS_i, mS_j, mS_pi, mS_pj, lt_st, bq_s, bV_s, bI_s, bJ_s, bA_s, lc_229, lr_229_0, lc_230, ll_230, nI_add, nI_clamp, n_ge0, n_lt, n_eq, pk_mul, n_lef, n_let, n_ltf, n_ltt, Nat.reduceLeDiff, Nat.reduceEqDiff, Nat.reduceAdd, Nat.reduceMul, Nat.reduceSub, if_true, if_false, eq_self, true_and, and_true, false_or, or_false, true_or, or_true, false_and, and_false, not_true, not_false_eq_true, ne_eq, ite_self, ite_not, ↓reduceIte, hW.nP.2, cntA, Nat.add_zero]
    | succ n ih =>
      intro p a hp
      rw [e_156_4]
      simp (disch := first | assumption | omega) only [mS_c, mS_l, mS_r, mS_i, mS_j, mS_pi, mS_pj, lt_st, bq_s, bV_s, bI_s, bJ_s, bA_s, lc_229, lr_229_0, lc_230, ll_230, nI_add, nI_clamp, n_ge0, n_lt, n_eq, pk_mul, n_lef, n_let, n_ltf, n_ltt, Nat.reduceLeDiff, Nat.reduceEqDiff, Nat.reduceAdd, Nat.reduceMul, Nat.reduceSub, if_true, if_false, eq_self, true_and, and_true, false_or, or_false, true_or, or_true, false_and, and_false, not_true, not_false_eq_true, ne_eq, ite_self, ite_not, ↓reduceIte, hW.nP.2, m154, ite_one]
      by_cases ha : isAw (I 230) p
      · rw [if_pos ha, ih _ _ (by omega)]
        simp only [cntA, if_pos ha, Nat.add_assoc]
      · rw [if_neg ha, ih _ _ (by omega)]
        simp only [cntA, if_neg ha, Nat.zero_add, Nat.add_zero]
  rw [c_156 lc_229, lp (nP (I 230)) 0 0 (by omega), Nat.zero_add]
  rfl
theorem m161 : am_cal (d + 1) 161 [.ref 229] (mS I J) = some (some (.int (if I 230 1 < nI 12 ∧ I 230 2 < nI 18 then nI 1 else nI 0)), mS I J) := by
  rw [c_161 lc_229]
  simp (disch := first | assumption | omega) only [mS_c, mS_l, mS_r, mS_i, mS_j, mS_pi, mS_pj, lt_st, bq_s, bV_s, bI_s, bJ_s, bA_s, lc_229, lr_229_0, lc_230, ll_230, nI_add, nI_clamp, n_ge0, n_lt, n_eq, pk_mul, n_lef, n_let, n_ltf, n_ltt, Nat.reduceLeDiff, Nat.reduceEqDiff, Nat.reduceAdd, Nat.reduceMul, Nat.reduceSub, if_true, if_false, eq_self, true_and, and_true, false_or, or_false, true_or, or_true, false_and, and_false, not_true, not_false_eq_true, ne_eq, ite_self, ite_not, ↓reduceIte]
  by_cases h1 : I 230 1 < nI 12 <;> by_cases h2 : I 230 2 < nI 18 <;> simp only [h1, h2, if_true, if_false, eq_self, true_and, and_true, false_or, or_false, true_or, or_true, false_and, and_false, not_true, not_false_eq_true, ne_eq, ite_self, ite_not, ↓reduceIte]
theorem m171 (hW : WF (I 230)) (hp : p < nP (I 230)) : am_cal (d + 2) 171 [.ref 229, .int (nI p)] (mS I J) = some (some (.int (nI (rt (I 230) (nP (I 230)) p))), mS I J) := by
  have h12 := hW.nP.1
  have lp : ∀ (n p : Nat), p ≤ n → p < nP (I 230) → am_X (am_cal (d + 1)) 171 2 [.ref 229, .null, .int (nI p)] [] (mS I J) = some (some (.int (nI (rt (I 230) (n + 1) p))), mS I J) := by
    intro n
    induction n with
    | zero =>
      intro p h0 hp
      rw [e_171_2]
      simp (disch := first | assumption | omega) only [mS_c, mS_l, mS_r, mS_i, mS_j, mS_pi, mS_pj, lt_st, bq_s, bV_s, bI_s, bJ_s, bA_s, m152, rt]
      rcases hW.fr hp with ⟨h2, _⟩ | ⟨q, hq, h2, _⟩
      · simp only [h2, m9_lt, if_true, if_false, eq_self, true_and, and_true, false_or, or_false, true_or, or_true, false_and, and_false, not_true, not_false_eq_true, ne_eq, ite_self, ite_not, ↓reduceIte]
      · omega
    | succ n ih =>
      intro p h0 hp
      rw [e_171_2]
      simp (disch := first | assumption | omega) only [mS_c, mS_l, mS_r, mS_i, mS_j, mS_pi, mS_pj, lt_st, bq_s, bV_s, bI_s, bJ_s, bA_s, m152]
      rw [rt_s (n := n + 1)]
      rcases hW.fr hp with ⟨h2, _⟩ | ⟨q, hq, h2, _⟩
      · simp only [h2, m9_lt, if_true, if_false, eq_self, true_and, and_true, false_or, or_false, true_or, or_true, false_and, and_false, not_true, not_false_eq_true, ne_eq, ite_self, ite_not, ↓reduceIte]
      · simp (disch := first | assumption | omega) only [h2, nI_add, nI_clamp, n_ge0, n_lt, n_eq, pk_mul, n_lef, n_let, n_ltf, n_ltt, Nat.reduceLeDiff, Nat.reduceEqDiff, Nat.reduceAdd, Nat.reduceMul, Nat.reduceSub, if_true, if_false, eq_self, true_and, and_true, false_or, or_false, true_or, or_true, false_and, and_false, not_true, not_false_eq_true, ne_eq, ite_self, ite_not, ↓reduceIte, ih]
  rw [c_171 lc_229, lp p p (by omega) hp, rt_fix hW (p + 1) (nP (I 230)) p hp (by omega) (by omega)]
theorem m174 (hW : WF (I 230)) (hp : p < nP (I 230)) : am_cal (d + 2) 174 [.ref 229, .int (nI p)] (mS I J) = some (some (.int (above (I 230) p)), mS I J) := by
  have h12 := hW.nP.1
  have l0 : ∀ t, am_X (am_cal (d + 1)) 174 6 [.ref 229, .null, .int t, .int (nI 0 - nI 1)] [] (mS I J) = some (some (.int t), mS I J) := by
    intro t
    rw [e_174_6]
    simp only [show (nI 0 - nI 1 < 0) = True from eq_true (by decide +kernel), if_true, if_false, eq_self, true_and, and_true, false_or, or_false, true_or, or_true, false_and, and_false, not_true, not_false_eq_true, ne_eq, ite_self, ite_not, ↓reduceIte]
  have lp : ∀ (q : Nat) (t : Int32), q < nP (I 230) → am_X (am_cal (d + 1)) 174 6 [.ref 229, .null, .int t, .int (nI q)] [] (mS I J) = some (some (.int (abv (I 230) (q + 1) t)), mS I J) := by
    intro q
    induction q with
    | zero =>
      intro t hq
      rw [e_174_6]
      simp (disch := first | assumption | omega) only [mS_c, mS_l, mS_r, mS_i, mS_j, mS_pi, mS_pj, lt_st, bq_s, bV_s, bI_s, bJ_s, bA_s, m152, nI_add, nI_clamp, n_ge0, n_lt, n_eq, pk_mul, n_lef, n_let, n_ltf, n_ltt, Nat.reduceLeDiff, Nat.reduceEqDiff, Nat.reduceAdd, Nat.reduceMul, Nat.reduceSub, if_true, if_false, eq_self, true_and, and_true, false_or, or_false, true_or, or_true, false_and, and_false, not_true, not_false_eq_true, ne_eq, ite_self, ite_not, ↓reduceIte, bit_1, abv, l0, or_0]
      by_cases h1 : t >>> (nI 0 &&& 31) &&& nI 1 = 0 <;> by_cases h2 : pF (I 230) 0 2 < 0 <;> by_cases h3 : pF (I 230) 0 3 < 0 <;> simp only [h1, h2, h3, if_true, if_false, eq_self, true_and, and_true, false_or, or_false, true_or, or_true, false_and, and_false, not_true, not_false_eq_true, ne_eq, ite_self, ite_not, ↓reduceIte, or_0]
    | succ q ih =>
      intro t hq
      rw [e_174_6]
      have e1 : nI (q + 1) - nI 1 = nI q := by rw [n_sub (by omega)]; rfl
      simp (disch := first | assumption | omega) only [mS_c, mS_l, mS_r, mS_i, mS_j, mS_pi, mS_pj, lt_st, bq_s, bV_s, bI_s, bJ_s, bA_s, m152, nI_add, nI_clamp, n_ge0, n_lt, n_eq, pk_mul, n_lef, n_let, n_ltf, n_ltt, Nat.reduceLeDiff, Nat.reduceEqDiff, Nat.reduceAdd, Nat.reduceMul, Nat.reduceSub, if_true, if_false, eq_self, true_and, and_true, false_or, or_false, true_or, or_true, false_and, and_false, not_true, not_false_eq_true, ne_eq, ite_self, ite_not, ↓reduceIte, e1, ih, bit_1, or_0]
      rw [show abv (I 230) (q + 1 + 1) t = _ from rfl]
      by_cases h1 : t >>> (nI (q + 1) &&& 31) &&& nI 1 = 0 <;> by_cases h2 : pF (I 230) (q + 1) 2 < 0 <;> by_cases h3 : pF (I 230) (q + 1) 3 < 0 <;> simp only [h1, h2, h3, if_true, if_false, eq_self, true_and, and_true, false_or, or_false, true_or, or_true, false_and, and_false, not_true, not_false_eq_true, ne_eq, ite_self, ite_not, ↓reduceIte, or_0, abv]
  rw [c_174 lc_229]
  exact lp p _ hp
end B2
