/-! ===== the law, evaluated ===== -/
theorem sh_1 : nI 1 &&& 31 = nI 1 := by decide +kernel
theorem b2_0 {c : Prop} : (b2 c = 0) = ¬ c := by
  by_cases h : c
  · rw [b2_t h]; exact propext ⟨fun e => absurd e (by decide), fun e => absurd h e⟩
  · rw [b2_f h]; exact propext ⟨fun _ => h, fun _ => nI_0⟩
theorem b2_1 {c : Prop} : (b2 c = nI 1) = c := by
  by_cases h : c
  · rw [b2_t h]; exact propext ⟨fun _ => h, fun _ => rfl⟩
  · rw [b2_f h]; exact propext ⟨fun e => absurd e (by decide), fun e => absurd e h⟩
theorem b2_if {c : Prop} [Decidable c] : (if c then nI 1 else nI 0) = b2 c := by
  by_cases h : c
  · rw [b2_t h, if_pos h]
  · rw [b2_f h, if_neg h]
theorem b2_01 {c : Prop} : (b2 c = 0 ∨ b2 c = 1) = True := by
  by_cases h : c
  · rw [b2_t h]; exact eq_true (Or.inr n_i1.symm)
  · rw [b2_f h]; exact eq_true (Or.inl nI_0)
theorem if_b2t {α : Type} {c : Prop} {A B : α} (h : c) : (if b2 c = 0 then A else B) = B := if_neg (by rw [b2_0]; exact fun e => e h)
theorem if_b2f {α : Type} {c : Prop} {A B : α} (h : ¬ c) : (if b2 c = 0 then A else B) = A := if_pos (by rw [b2_0]; exact h)
theorem b2_iff {a b : Prop} (h : a ↔ b) : b2 a = b2 b := by rw [propext h]
theorem lawU_s {s f : Rw} {key : Int32} {c : Nat} : lawU s key f (c + 1) = @ite _ (lF s c 0 = key ∧ hld s c f) (Classical.propDecidable _) (lF s c 1) (lawU s key f c) := rfl
theorem neg1 : (nI 0 - nI 1 < 0) = True := eq_true (by decide +kernel)
theorem n_pred {c : Nat} : nI (c + 1) - nI 1 = nI c := by rw [n_sub (by omega)]; rfl
section B3
variable {I : mI} {J : mJ} {w p q e c d l b : Nat} {s : Rw} {x key : Int32}
theorem k17 {op : Int32} {g a r : Nat} (hb : lyC b = 100) (hb6 : lyL b = 6) (hg : g ≤ 2) (ha : a < 10006) (hr : r < 10006) (ho : op = nI ((g * 16384 + a) * 16384 + r)) : am_cal (d + 1) 17 [.int op, .ref b] (mS I J) = some (some (.int (b2 (ccp op (I b)))), mS I J) := by
  have h1 : op / nI 16384 = nI (g * 16384 + a) := by
    rw [ho, pk_div (by omega) (by omega) (by omega)]
    exact congrArg nI (by omega)
  have h2 : op - op / nI 16384 * nI 16384 = nI r := by
    rw [ho, pk_rem (by omega) (by omega) (by omega)]
    exact congrArg nI (by omega)
  have h3 : op / nI 16384 / nI 16384 = nI g := by
    rw [h1, pk_div (by omega) (by omega) (by omega)]
    exact congrArg nI (by omega)
  have h4 : op / nI 16384 - op / nI 16384 / nI 16384 * nI 16384 = nI a := by
    rw [h1, pk_rem (by omega) (by omega) (by omega)]
    exact congrArg nI (by omega)
  have z : (nI 16384 = 0) = False := eq_false (by decide +kernel)
  have z0 : (nI 16384 = nI 0) = False := eq_false (by decide +kernel)
  have fin : ∀ u v : Int32, am_X (am_cal d) 17 28 [.int op, .null, .int u, .int v, .null] [] (mS I J) = some (some (.int (b2 (if nI g = nI 0 then u < v else if nI g = nI 1 then u = v else v < u))), mS I J) := by
    intro u v
    rw [e_17_28]
    simp only [z, z0, h3, if_true, if_false, eq_self, true_and, and_true, false_or, or_false, true_or, or_true, false_and, and_false, not_true, not_false_eq_true, ne_eq, ite_self, ite_not, ↓reduceIte, r_ite, b2_if, n_i0]
    by_cases g0 : nI g = nI 0
    · simp only [g0, z0, if_true, if_false, eq_self, true_and, and_true, false_or, or_false, true_or, or_true, false_and, and_false, not_true, not_false_eq_true, ne_eq, ite_self, ite_not, ↓reduceIte]
    · by_cases g1 : nI g = nI 1
      · simp only [g1, z0, if_true, if_false, eq_self, true_and, and_true, false_or, or_false, true_or, or_true, false_and, and_false, not_true, not_false_eq_true, ne_eq, ite_self, ite_not, ↓reduceIte, show (nI 1 = nI 0) = False from eq_false (by decide)]
      · simp only [g0, g1, z0, if_true, if_false, eq_self, true_and, and_true, false_or, or_false, true_or, or_true, false_and, and_false, not_true, not_false_eq_true, ne_eq, ite_self, ite_not, ↓reduceIte]
  rw [c_17]
  simp only [z, h2, h4, if_true, if_false, eq_self, true_and, and_true, false_or, or_false, true_or, or_true, false_and, and_false, not_true, not_false_eq_true, ne_eq, ite_self, ite_not, ↓reduceIte, hb, hb6, fin]
  unfold ccp
  simp only [h2, h4]
  simp only [h3]
  by_cases ha2 : a < 10000 <;> by_cases hr2 : r < 10000 <;> simp (disch := first | assumption | omega) only [nI_add, nI_clamp, n_ge0, n_lt, n_eq, pk_mul, n_lef, n_let, n_ltf, n_ltt, Nat.reduceLeDiff, Nat.reduceEqDiff, Nat.reduceAdd, Nat.reduceMul, Nat.reduceSub, if_true, if_false, eq_self, true_and, and_true, false_or, or_false, true_or, or_true, false_and, and_false, not_true, not_false_eq_true, ne_eq, ite_self, ite_not, ↓reduceIte, n_le, n_sub]
theorem k16 (hl : isL l) (hb : lyC b = 100) (hb6 : lyL b = 6) (h : RepL I l s) (hn : nL s ≤ 10) (hc : c < nL s) : am_cal (d + 2) 16 [.ref l, .int (nI c), .ref b] (mS I J) = some (some (.int (b2 (hld s c (I b)))), mS I J) := by
  obtain ⟨h4, t, ht, hi⟩ := h
  obtain ⟨hle, _, _, hwf, hh⟩ := hi c hc
  obtain ⟨ta, ta2⟩ := ht c (by omega)
  obtain ⟨tb, tb2⟩ := ht (c + 1) (by omega)
  have lp : ∀ (n k : Nat) (u : Int32), k + n = t (c + 1) → t c ≤ k → am_X (am_cal (d + 1)) 16 7 [.ref l, .int (nI c), .ref b, .int u, .int (nI k), .null, .null] [] (mS I J) = some (some (.int (b2 (¬ crun (I (l + 4)) (I b) n k u &&& nI 1 = 0))), mS I J) := by
    intro n
    induction n with
    | zero =>
      intro k u hk hk2
      rw [e_16_7]
      simp (disch := first | assumption | omega) only [mS_c, mS_l, mS_r, mS_i, mS_j, mS_pi, mS_pj, lt_st, bq_s, bV_s, bI_s, bJ_s, bA_s, l_C, l_R0, l_R1, l_R2, l_R3, l_C1, l_C2, l_C3, l_C4, l_L1, l_L2, l_L3, l_L4, nI_add, nI_clamp, n_ge0, n_lt, n_eq, pk_mul, n_lef, n_let, n_ltf, n_ltt, Nat.reduceLeDiff, Nat.reduceEqDiff, Nat.reduceAdd, Nat.reduceMul, Nat.reduceSub, if_true, if_false, eq_self, true_and, and_true, false_or, or_false, true_or, or_true, false_and, and_false, not_true, not_false_eq_true, ne_eq, ite_self, ite_not, ↓reduceIte, tb, crun, r_ite, ← b2_if]
    | succ n ih =>
      intro k u hk hk2
      rw [e_16_7]
      simp (disch := first | assumption | omega) only [mS_c, mS_l, mS_r, mS_i, mS_j, mS_pi, mS_pj, lt_st, bq_s, bV_s, bI_s, bJ_s, bA_s, l_C, l_R0, l_R1, l_R2, l_R3, l_C1, l_C2, l_C3, l_C4, l_L1, l_L2, l_L3, l_L4, nI_add, nI_clamp, n_ge0, n_lt, n_eq, pk_mul, n_lef, n_let, n_ltf, n_ltt, Nat.reduceLeDiff, Nat.reduceEqDiff, Nat.reduceAdd, Nat.reduceMul, Nat.reduceSub, if_true, if_false, eq_self, true_and, and_true, false_or, or_false, true_or, or_true, false_and, and_false, not_true, not_false_eq_true, ne_eq, ite_self, ite_not, ↓reduceIte, tb]
      show _ = some (some (Value.int (b2 (¬ crun (I (l + 4)) (I b) n (k + 1) (cst (I (l + 4)) (I b) k u) &&& nI 1 = 0))), mS I J)
      rcases hwf k hk2 (by omega) with ⟨g, a, r, hg, ha, hr, ho⟩ | ho | ho | ho
      · have hp : (I (l + 4) k < 0) = False := by rw [ho]; exact n_ge0 (by omega)
        simp only [hp, if_true, if_false, eq_self, true_and, and_true, false_or, or_false, true_or, or_true, false_and, and_false, not_true, not_false_eq_true, ne_eq, ite_self, ite_not, ↓reduceIte, k17 hb hb6 hg ha hr ho, bI_s, cst]
        by_cases hcc : ccp (I (l + 4) k) (I b)
        · rw [if_b2t hcc, sh_1, ih (k + 1) _ (by omega) (by omega), b2_t hcc]
        · rw [if_b2f hcc, sh_1, ih (k + 1) _ (by omega) (by omega), b2_f hcc]
      · simp only [ho, show (Int32.ofInt (-1) < 0) = True from eq_true (by decide +kernel), if_true, if_false, eq_self, true_and, and_true, false_or, or_false, true_or, or_true, false_and, and_false, not_true, not_false_eq_true, ne_eq, ite_self, ite_not, ↓reduceIte, ih (k + 1) _ (show k + 1 + n = _ by omega) (show t c ≤ k + 1 by omega), cst]
      · simp only [ho, show (Int32.ofInt (-2) < 0) = True from eq_true (by decide +kernel), show (Int32.ofInt (-2) = Int32.ofInt (-1)) = False from eq_false (by decide +kernel), if_true, if_false, eq_self, true_and, and_true, false_or, or_false, true_or, or_true, false_and, and_false, not_true, not_false_eq_true, ne_eq, ite_self, ite_not, ↓reduceIte, sh_1, ih (k + 1) _ (show k + 1 + n = _ by omega) (show t c ≤ k + 1 by omega), cst]
      · simp only [ho, show (Int32.ofInt (-3) < 0) = True from eq_true (by decide +kernel), show (Int32.ofInt (-3) = Int32.ofInt (-1)) = False from eq_false (by decide +kernel), show (Int32.ofInt (-3) = Int32.ofInt (-2)) = False from eq_false (by decide +kernel), if_true, if_false, eq_self, true_and, and_true, false_or, or_false, true_or, or_true, false_and, and_false, not_true, not_false_eq_true, ne_eq, ite_self, ite_not, ↓reduceIte, sh_1, ih (k + 1) _ (show k + 1 + n = _ by omega) (show t c ≤ k + 1 by omega), cst]
  rw [c_16 (l_C hl)]
  simp (disch := first | assumption | omega) only [mS_c, mS_l, mS_r, mS_i, mS_j, mS_pi, mS_pj, lt_st, bq_s, bV_s, bI_s, bJ_s, bA_s, l_C, l_R0, l_R1, l_R2, l_R3, l_C1, l_C2, l_C3, l_C4, l_L1, l_L2, l_L3, l_L4, nI_add, nI_clamp, n_ge0, n_lt, n_eq, pk_mul, n_lef, n_let, n_ltf, n_ltt, Nat.reduceLeDiff, Nat.reduceEqDiff, Nat.reduceAdd, Nat.reduceMul, Nat.reduceSub, if_true, if_false, eq_self, true_and, and_true, false_or, or_false, true_or, or_true, false_and, and_false, not_true, not_false_eq_true, ne_eq, ite_self, ite_not, ↓reduceIte, ta]
  rw [lp (t (c + 1) - t c) (t c) (nI 1) (by omega) (Nat.le_refl _), b2_iff (hh (I b))]
theorem k15 (hl : isL l) (hb : lyC b = 100) (hb6 : lyL b = 6) (h : RepL I l s) (hn : nL s ≤ 10 ∧ s 6 = nI (nL s)) : am_cal (d + 3) 15 [.ref l, .int key, .ref b] (mS I J) = some (some (.int (lawV s key (I b))), mS I J) := by
  have lp : ∀ c, c ≤ nL s → am_X (am_cal (d + 2)) 15 5 [.ref l, .int key, .ref b, .int (nI c - nI 1)] [] (mS I J) = some (some (.int (lawU s key (I b) c)), mS I J) := by
    intro c
    induction c with
    | zero =>
      intro hc
      rw [e_15_5]
      simp only [neg1, if_true, if_false, eq_self, true_and, and_true, false_or, or_false, true_or, or_true, false_and, and_false, not_true, not_false_eq_true, ne_eq, ite_self, ite_not, ↓reduceIte, lawU]
    | succ c ih =>
      intro hc
      obtain ⟨t, ht, hi⟩ := h.2
      obtain ⟨_, hk, hv, _⟩ := hi c hc
      rw [e_15_5, n_pred]
      simp (disch := first | assumption | omega) only [mS_c, mS_l, mS_r, mS_i, mS_j, mS_pi, mS_pj, lt_st, bq_s, bV_s, bI_s, bJ_s, bA_s, l_C, l_R0, l_R1, l_R2, l_R3, l_C1, l_C2, l_C3, l_C4, l_L1, l_L2, l_L3, l_L4, nI_add, nI_clamp, n_ge0, n_lt, n_eq, pk_mul, n_lef, n_let, n_ltf, n_ltt, Nat.reduceLeDiff, Nat.reduceEqDiff, Nat.reduceAdd, Nat.reduceMul, Nat.reduceSub, if_true, if_false, eq_self, true_and, and_true, false_or, or_false, true_or, or_true, false_and, and_false, not_true, not_false_eq_true, ne_eq, ite_self, ite_not, ↓reduceIte, k16 hl hb hb6 h hn.1 hc, lawU_s, hk, hv, ih (by omega)]
      by_cases h1 : lF s c 0 = key
      · by_cases h2 : hld s c (I b)
        · rw [if_pos h1, if_b2t h2, if_pos ⟨h1, h2⟩]
        · rw [if_pos h1, if_b2f h2, if_neg (fun hh => h2 hh.2)]
      · rw [if_neg h1, if_neg (fun hh => h1 hh.1)]
  rw [c_15 (l_C hl)]
  simp (disch := first | assumption | omega) only [l_C, if_true, if_false, eq_self, true_and, and_true, false_or, or_false, true_or, or_true, false_and, and_false, not_true, not_false_eq_true, ne_eq, ite_self, ite_not, ↓reduceIte]
  rw [h.1, hn.2]
  exact lp (nL s) (Nat.le_refl _)
end B3
