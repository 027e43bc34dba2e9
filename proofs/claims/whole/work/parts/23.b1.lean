/-! ===== small methods of both sides ===== -/
theorem m9_lt : (m9 < 0) = True := eq_true (by decide +kernel)
/-- the root, by steps -/
def rt (s : Rw) : Nat → Nat → Nat
  | 0, p => p
  | n + 1, p => if pF s p 2 < 0 then p else rt s n (pF s p 2).toNatClampNeg
theorem rt_s {s : Rw} {n p : Nat} : rt s (n + 1) p = if pF s p 2 < 0 then p else rt s n (pF s p 2).toNatClampNeg := rfl
def cntA (s : Rw) : Nat → Nat → Nat
  | 0, _ => 0
  | n + 1, p => (if isAw s p then 1 else 0) + cntA s n (p + 1)
def awk (s : Rw) : Nat := cntA s (nP s) 0
/-- all above: the bits gathered from q places on down -/
def abv (s : Rw) : Nat → Int32 → Int32
  | 0, t => t
  | q + 1, t => if (t >>> (nI q &&& 31)) &&& nI 1 = 0 then abv s q t else abv s q ((if pF s q 2 < 0 then t else t ||| (nI 1 <<< (pF s q 2 &&& 31))) ||| (if pF s q 3 < 0 then nI 0 else nI 1 <<< (pF s q 3 &&& 31)))
def above (s : Rw) (p : Nat) : Int32 := abv s (p + 1) (nI 1 <<< (nI p &&& 31))
abbrev i4 (x : Int32) : Prop := ¬ x < 0 ∧ x < nI 4
abbrev i2 (x : Int32) : Prop := x = nI 0 ∨ x = nI 1
abbrev iCk (x : Int32) : Prop := x = nI 2 ∨ x = nI 3 ∨ x = nI 5
theorem or_0 (t : Int32) : t ||| nI 0 = t := by
  rw [nI_0]
  exact Int32.or_zero
theorem bit_01 (t : Int32) : t &&& nI 1 = nI 0 ∨ t &&& nI 1 = nI 1 := by
  obtain ⟨j, hj, e⟩ := pk_andE t (m := nI 1) 1 (by decide +kernel)
  rw [e]
  rcases (show j = 0 ∨ j = 1 by omega) with rfl | rfl
  · exact Or.inl rfl
  · exact Or.inr rfl
theorem bit_1 (t : Int32) : (t &&& nI 1 = nI 1) = ¬ (t &&& nI 1 = 0) := by
  rw [n_i0]
  rcases bit_01 t with h | h <;> rw [h] <;> decide
theorem i2_in (x : Int32) : (¬ x < nI 0 ∧ ¬ nI 1 < x) = i2 x := propext ⟨fun h => by
  obtain ⟨j, hj, rfl⟩ := nI_of (by rw [n_i0]; exact h.1)
  have h2 := h.2
  rw [n_lt (by omega) hj] at h2
  rcases (show j = 0 ∨ j = 1 by omega) with rfl | rfl
  · exact Or.inl rfl
  · exact Or.inr rfl, fun h => by
  rcases h with rfl | rfl <;> decide +kernel⟩
theorem nlt_succ {x : Int32} {n : Nat} (hn : n + 1 < 2 ^ 31) : (¬ nI n < x) = (x < nI (n + 1)) := by
  rw [Int32.lt_iff_toInt_lt, Int32.lt_iff_toInt_lt, nI_toInt (by omega), nI_toInt hn]
  exact propext ⟨fun h => by omega, fun h => by omega⟩
section B1
variable {I : mI} {J : mJ} {w p q e c d : Nat} {s : Rw} {x : Int32}
theorem WF.fr (h : WF s) (hp : p < Jvm.Pilot.COneIsTwoLaw_law_r4618_45b3fe.nP s) : (pF s p 2 = m9 ∧ pF s p 1 = nI 1 ∧ pF s p 3 = m9) ∨ (∃ q, q < p ∧ pF s p 2 = nI q ∧ ¬ pF s p 1 = nI 1) := by
  rcases (h.per hp).1 with ⟨h1, h2, h3, _⟩ | ⟨h1, ⟨q, hq, h2, _⟩, _⟩ | ⟨h1, ⟨q, r, hq, hr, _, h2, _⟩, _⟩
  · exact Or.inl ⟨h2, h1, h3⟩
  · exact Or.inr ⟨q, hq, h2, fun h => by rcases h1 with h1 | h1 | h1 <;> rw [h1] at h <;> exact absurd h (by decide)⟩
  · exact Or.inr ⟨q, hq, h2, fun h => by rw [h1] at h; exact absurd h (by decide)⟩
theorem WF.al (h : WF s) (hp : p < Jvm.Pilot.COneIsTwoLaw_law_r4618_45b3fe.nP s) : (pF s p 3 = m9 ∧ ¬ pF s p 1 = nI 4) ∨ (∃ q, q < p ∧ pF s p 3 = nI q ∧ pF s p 1 = nI 4) := by
  rcases (h.per hp).1 with ⟨h1, h2, h3, _⟩ | ⟨h1, _, h3, _⟩ | ⟨h1, ⟨q, r, hq, hr, _, _, h2, _⟩, _⟩
  · exact Or.inl ⟨h3, fun h => by rw [h1] at h; exact absurd h (by decide)⟩
  · exact Or.inl ⟨h3, fun h => by rcases h1 with h1 | h1 | h1 <;> rw [h1] at h <;> exact absurd h (by decide)⟩
  · exact Or.inr ⟨r, hr, h2, h1⟩
theorem rt_lt (hW : WF s) : ∀ (n p : Nat), p < nP s → rt s n p < nP s
  | 0, p, h => h
  | n + 1, p, h => by
    unfold rt
    split
    · exact h
    · rename_i hn
      rcases hW.fr h with ⟨h2, _⟩ | ⟨q, hq, h2, _⟩
      · rw [h2, m9_lt] at hn; exact absurd trivial hn
      · have := hW.nP.1
        rw [h2, nI_clamp (by omega)]
        exact rt_lt hW n q (by omega)
theorem rt_fix (hW : WF s) : ∀ (n m p : Nat), p < nP s → p ≤ n → p ≤ m → rt s n p = rt s m p := by
  have key : ∀ (n p : Nat), p < nP s → p ≤ n → rt s n p = rt s (n + 1) p := by
    intro n
    induction n with
    | zero =>
      intro p hp h0
      unfold rt
      split
      · rfl
      · rename_i hn
        rcases hW.fr hp with ⟨h2, _⟩ | ⟨q, hq, h2, _⟩
        · rw [h2, m9_lt] at hn; exact absurd trivial hn
        · omega
    | succ n ih =>
      intro p hp h0
      unfold rt
      split
      · rfl
      · rename_i hn
        rcases hW.fr hp with ⟨h2, _⟩ | ⟨q, hq, h2, _⟩
        · rw [h2, m9_lt] at hn; exact absurd trivial hn
        · have := hW.nP.1
          rw [h2, nI_clamp (by omega)]
          exact ih q (by omega) (by omega)
  have up : ∀ (k n p : Nat), p < nP s → p ≤ n → rt s n p = rt s (n + k) p := by
    intro k
    induction k with
    | zero => intro n p _ _; rfl
    | succ k ih => intro n p hp h0; rw [ih n p hp h0, key (n + k) p hp (by omega)]; rfl
  intro n m p hp hn hm
  rcases Nat.le_total n m with h | h
  · rw [up (m - n) n p hp hn, show n + (m - n) = m by omega]
  · rw [up (n - m) m p hp hm, show m + (n - m) = n by omega]
/-! the class -/
theorem k66 (hw : isW w) (h : Rep I w s) : am_cal (d + 1) 66 [.ref w, .int x] (mS I J) = some (some (.int (if isCl s x then nI 1 else nI 0)), mS I J) := by
  rw [c_66 (w_C hw)]
  simp (disch := first | assumption | omega) only [mS_c, mS_l, mS_r, mS_i, mS_j, mS_pi, mS_pj, lt_st, bq_s, bV_s, bI_s, bJ_s, bA_s, w_C, w_R0, w_R1, w_R2, w_R3, w_R4, w_R5, w_R6, w_R7, w_C1, w_C2, w_C3, w_C4, w_C5, w_C6, w_C12, w_L1, w_L2, w_L3, w_L4, w_L5, w_L6, w_L12, w_cp, w_rp, w_ce, w_re, w_cc, w_rc, w_cd, w_rd, if_true, if_false, eq_self, true_and, and_true, false_or, or_false, true_or, or_true, false_and, and_false, not_true, not_false_eq_true, ne_eq, ite_self, ite_not, ↓reduceIte, h.cls, isCl]
  by_cases h1 : x < 0 <;> by_cases h2 : x < s 3 <;> simp only [h1, h2, if_true, if_false, eq_self, true_and, and_true, false_or, or_false, true_or, or_true, false_and, and_false, not_true, not_false_eq_true, ne_eq, ite_self, ite_not, ↓reduceIte]
theorem k67 (hw : isW w) (h : Rep I w s) : am_cal (d + 1) 67 [.ref w, .int x] (mS I J) = some (some (.int (if isDd s x then nI 1 else nI 0)), mS I J) := by
  rw [c_67 (w_C hw)]
  simp (disch := first | assumption | omega) only [mS_c, mS_l, mS_r, mS_i, mS_j, mS_pi, mS_pj, lt_st, bq_s, bV_s, bI_s, bJ_s, bA_s, w_C, w_R0, w_R1, w_R2, w_R3, w_R4, w_R5, w_R6, w_R7, w_C1, w_C2, w_C3, w_C4, w_C5, w_C6, w_C12, w_L1, w_L2, w_L3, w_L4, w_L5, w_L6, w_L12, w_cp, w_rp, w_ce, w_re, w_cc, w_rc, w_cd, w_rd, if_true, if_false, eq_self, true_and, and_true, false_or, or_false, true_or, or_true, false_and, and_false, not_true, not_false_eq_true, ne_eq, ite_self, ite_not, ↓reduceIte, h.dds, isDd]
  by_cases h1 : x < 0 <;> by_cases h2 : x < s 4 <;> simp only [h1, h2, if_true, if_false, eq_self, true_and, and_true, false_or, or_false, true_or, or_true, false_and, and_false, not_true, not_false_eq_true, ne_eq, ite_self, ite_not, ↓reduceIte]
theorem k69 (hw : isW w) (h : Rep I w s) (hW : WF s) (hp : p < nP s) : am_cal (d + 1) 69 [.ref w, .int (nI p)] (mS I J) = some (some (.int (if pF s p 0 = nI 6 then nI 1 else nI 0)), mS I J) := by
  have h12 := hW.nP.1
  rw [c_69 (w_C hw)]
  simp (disch := first | assumption | omega) only [mS_c, mS_l, mS_r, mS_i, mS_j, mS_pi, mS_pj, lt_st, bq_s, bV_s, bI_s, bJ_s, bA_s, w_C, w_R0, w_R1, w_R2, w_R3, w_R4, w_R5, w_R6, w_R7, w_C1, w_C2, w_C3, w_C4, w_C5, w_C6, w_C12, w_L1, w_L2, w_L3, w_L4, w_L5, w_L6, w_L12, w_cp, w_rp, w_ce, w_re, w_cc, w_rc, w_cd, w_rd, nI_add, nI_clamp, n_ge0, n_lt, n_eq, pk_mul, n_lef, n_let, n_ltf, n_ltt, Nat.reduceLeDiff, Nat.reduceEqDiff, Nat.reduceAdd, Nat.reduceMul, Nat.reduceSub, if_true, if_false, eq_self, true_and, and_true, false_or, or_false, true_or, or_true, false_and, and_false, not_true, not_false_eq_true, ne_eq, ite_self, ite_not, ↓reduceIte, h.pF, r_ite]
theorem k70 (hw : isW w) (h : Rep I w s) (hW : WF s) : am_cal (d + 2) 70 [.ref w] (mS I J) = some (some (.int (nI (awk s))), mS I J) := by
  have h12 := hW.nP.1
  have lp : ∀ (n p a : Nat), p + n = nP s → am_X (am_cal (d + 1)) 70 4 [.ref w, .int (nI a), .int (nI p)] [] (mS I J) = some (some (.int (nI (a + cntA s n p))), mS I J) := by
    intro n
    induction n with
    | zero =>
      intro p a hp
      rw [e_70_4]
      simp (disch := first | assumption | omega) only [mS_c, mS_l, mS_r, mS_i, mS_j, mS_pi, mS_pj, lt_st, bq_s, bV_s, bI_s, bJ_s, bA_s, w_C, w_R0, w_R1, w_R2, w_R3, w_R4, w_R5, w_R6, w_R7, w_C1, w_C2, w_C3, w_C4, w_C5, w_C6, w_C12, w_L1, w_L2, w_L3, w_L4, w_L5, w_L6, w_L12, w_cp, w_rp, w_ce, w_re, w_cc, w_rc, w_cd, w_rd, nI_add, nI_clamp, n_ge0, n_lt, n_eq, pk_mul, n_lef, n_let, n_ltf, n_ltt, Nat.reduceLeDiff, Nat.reduceEqDiff, Nat.reduceAdd, Nat.reduceMul, Nat.reduceSub, if_true, if_false, eq_self, true_and, and_true, false_or, or_false, true_or, or_true, false_and, and_false, not_true, not_false_eq_true, ne_eq, ite_self, ite_not, ↓reduceIte, h.ppl, hW.nP.2, cntA, Nat.add_zero]
    | succ n ih =>
      intro p a hp
      rw [e_70_4]
      simp (disch := first | assumption | omega) only [mS_c, mS_l, mS_r, mS_i, mS_j, mS_pi, mS_pj, lt_st, bq_s, bV_s, bI_s, bJ_s, bA_s, w_C, w_R0, w_R1, w_R2, w_R3, w_R4, w_R5, w_R6, w_R7, w_C1, w_C2, w_C3, w_C4, w_C5, w_C6, w_C12, w_L1, w_L2, w_L3, w_L4, w_L5, w_L6, w_L12, w_cp, w_rp, w_ce, w_re, w_cc, w_rc, w_cd, w_rd, nI_add, nI_clamp, n_ge0, n_lt, n_eq, pk_mul, n_lef, n_let, n_ltf, n_ltt, Nat.reduceLeDiff, Nat.reduceEqDiff, Nat.reduceAdd, Nat.reduceMul, Nat.reduceSub, if_true, if_false, eq_self, true_and, and_true, false_or, or_false, true_or, or_true, false_and, and_false, not_true, not_false_eq_true, ne_eq, ite_self, ite_not, ↓reduceIte, h.ppl, hW.nP.2, k68 hw h hW, ite_one]
      by_cases ha : isAw s p
      · rw [if_pos ha, ih _ _ (by omega)]
        simp only [cntA, if_pos ha, Nat.add_assoc]
      · rw [if_neg ha, ih _ _ (by omega)]
        simp only [cntA, if_neg ha, Nat.zero_add]
  rw [c_70 (w_C hw), lp (nP s) 0 0 (by omega), Nat.zero_add]
  rfl
theorem k72 (hw : isW w) (h : Rep I w s) : am_cal (d + 1) 72 [.ref w] (mS I J) = some (some (.int (if s 2 < nI 18 then nI 1 else nI 0)), mS I J) := by
  rw [c_72 (w_C hw)]
  simp (disch := first | assumption | omega) only [mS_c, mS_l, mS_r, mS_i, mS_j, mS_pi, mS_pj, lt_st, bq_s, bV_s, bI_s, bJ_s, bA_s, w_C, w_R0, w_R1, w_R2, w_R3, w_R4, w_R5, w_R6, w_R7, w_C1, w_C2, w_C3, w_C4, w_C5, w_C6, w_C12, w_L1, w_L2, w_L3, w_L4, w_L5, w_L6, w_L12, w_cp, w_rp, w_ce, w_re, w_cc, w_rc, w_cd, w_rd, nI_add, nI_clamp, n_ge0, n_lt, n_eq, pk_mul, n_lef, n_let, n_ltf, n_ltt, Nat.reduceLeDiff, Nat.reduceEqDiff, Nat.reduceAdd, Nat.reduceMul, Nat.reduceSub, if_true, if_false, eq_self, true_and, and_true, false_or, or_false, true_or, or_true, false_and, and_false, not_true, not_false_eq_true, ne_eq, ite_self, ite_not, ↓reduceIte, h.evs, r_ite]
theorem k71 (hw : isW w) (h : Rep I w s) : am_cal (d + 2) 71 [.ref w] (mS I J) = some (some (.int (if s 1 < nI 12 ∧ s 2 < nI 18 then nI 1 else nI 0)), mS I J) := by
  rw [c_71 (w_C hw)]
  simp (disch := first | assumption | omega) only [mS_c, mS_l, mS_r, mS_i, mS_j, mS_pi, mS_pj, lt_st, bq_s, bV_s, bI_s, bJ_s, bA_s, w_C, w_R0, w_R1, w_R2, w_R3, w_R4, w_R5, w_R6, w_R7, w_C1, w_C2, w_C3, w_C4, w_C5, w_C6, w_C12, w_L1, w_L2, w_L3, w_L4, w_L5, w_L6, w_L12, w_cp, w_rp, w_ce, w_re, w_cc, w_rc, w_cd, w_rd, nI_add, nI_clamp, n_ge0, n_lt, n_eq, pk_mul, n_lef, n_let, n_ltf, n_ltt, Nat.reduceLeDiff, Nat.reduceEqDiff, Nat.reduceAdd, Nat.reduceMul, Nat.reduceSub, if_true, if_false, eq_self, true_and, and_true, false_or, or_false, true_or, or_true, false_and, and_false, not_true, not_false_eq_true, ne_eq, ite_self, ite_not, ↓reduceIte, h.ppl, k72 hw h, ite_one]
  by_cases h1 : s 1 < nI 12 <;> by_cases h2 : s 2 < nI 18 <;> simp only [h1, h2, if_true, if_false, eq_self, true_and, and_true, false_or, or_false, true_or, or_true, false_and, and_false, not_true, not_false_eq_true, ne_eq, ite_self, ite_not, ↓reduceIte]
theorem k89 (hw : isW w) (h : Rep I w s) (hW : WF s) (hp : p < nP s) : am_cal (d + 1) 89 [.ref w, .int (nI p)] (mS I J) = some (some (.int (nI (rt s (nP s) p))), mS I J) := by
  have h12 := hW.nP.1
  have lp : ∀ (n i p : Nat), i + n = nP s → p < nP s → am_X (am_cal d) 89 4 [.ref w, .null, .int (nI p), .int (nI i)] [] (mS I J) = some (some (.int (nI (rt s n p))), mS I J) := by
    intro n
    induction n with
    | zero =>
      intro i p hi hp
      rw [e_89_4]
      simp (disch := first | assumption | omega) only [mS_c, mS_l, mS_r, mS_i, mS_j, mS_pi, mS_pj, lt_st, bq_s, bV_s, bI_s, bJ_s, bA_s, w_C, w_R0, w_R1, w_R2, w_R3, w_R4, w_R5, w_R6, w_R7, w_C1, w_C2, w_C3, w_C4, w_C5, w_C6, w_C12, w_L1, w_L2, w_L3, w_L4, w_L5, w_L6, w_L12, w_cp, w_rp, w_ce, w_re, w_cc, w_rc, w_cd, w_rd, nI_add, nI_clamp, n_ge0, n_lt, n_eq, pk_mul, n_lef, n_let, n_ltf, n_ltt, Nat.reduceLeDiff, Nat.reduceEqDiff, Nat.reduceAdd, Nat.reduceMul, Nat.reduceSub, if_true, if_false, eq_self, true_and, and_true, false_or, or_false, true_or, or_true, false_and, and_false, not_true, not_false_eq_true, ne_eq, ite_self, ite_not, ↓reduceIte, h.ppl, hW.nP.2, rt]
    | succ n ih =>
      intro i p hi hp
      rw [e_89_4]
      simp (disch := first | assumption | omega) only [mS_c, mS_l, mS_r, mS_i, mS_j, mS_pi, mS_pj, lt_st, bq_s, bV_s, bI_s, bJ_s, bA_s, w_C, w_R0, w_R1, w_R2, w_R3, w_R4, w_R5, w_R6, w_R7, w_C1, w_C2, w_C3, w_C4, w_C5, w_C6, w_C12, w_L1, w_L2, w_L3, w_L4, w_L5, w_L6, w_L12, w_cp, w_rp, w_ce, w_re, w_cc, w_rc, w_cd, w_rd, nI_add, nI_clamp, n_ge0, n_lt, n_eq, pk_mul, n_lef, n_let, n_ltf, n_ltt, Nat.reduceLeDiff, Nat.reduceEqDiff, Nat.reduceAdd, Nat.reduceMul, Nat.reduceSub, if_true, if_false, eq_self, true_and, and_true, false_or, or_false, true_or, or_true, false_and, and_false, not_true, not_false_eq_true, ne_eq, ite_self, ite_not, ↓reduceIte, h.ppl, hW.nP.2, h.pF, rt]
      rcases hW.fr hp with ⟨h2, _⟩ | ⟨q, hq, h2, _⟩
      · simp only [h2, m9_lt, if_true, if_false, eq_self, true_and, and_true, false_or, or_false, true_or, or_true, false_and, and_false, not_true, not_false_eq_true, ne_eq, ite_self, ite_not, ↓reduceIte]
      · simp (disch := first | assumption | omega) only [h2, nI_add, nI_clamp, n_ge0, n_lt, n_eq, pk_mul, n_lef, n_let, n_ltf, n_ltt, Nat.reduceLeDiff, Nat.reduceEqDiff, Nat.reduceAdd, Nat.reduceMul, Nat.reduceSub, if_true, if_false, eq_self, true_and, and_true, false_or, or_false, true_or, or_true, false_and, and_false, not_true, not_false_eq_true, ne_eq, ite_self, ite_not, ↓reduceIte, ih]
  rw [c_89 (w_C hw)]
  exact lp (nP s) 0 p (by omega) hp
theorem k90 (hw : isW w) (h : Rep I w s) (hW : WF s) (hp : p < nP s) : am_cal (d + 1) 90 [.ref w, .int (nI p)] (mS I J) = some (some (.int (above s p)), mS I J) := by
  have h12 := hW.nP.1
  have l0 : ∀ t, am_X (am_cal d) 90 6 [.ref w, .null, .int t, .int (nI 0 - nI 1)] [] (mS I J) = some (some (.int t), mS I J) := by
    intro t
    rw [e_90_6]
    simp only [show (nI 0 - nI 1 < 0) = True from eq_true (by decide +kernel), if_true, if_false, eq_self, true_and, and_true, false_or, or_false, true_or, or_true, false_and, and_false, not_true, not_false_eq_true, ne_eq, ite_self, ite_not, ↓reduceIte]
  have lp : ∀ (q : Nat) (t : Int32), q < nP s → am_X (am_cal d) 90 6 [.ref w, .null, .int t, .int (nI q)] [] (mS I J) = some (some (.int (abv s (q + 1) t)), mS I J) := by
    intro q
    induction q with
    | zero =>
      intro t hq
      rw [e_90_6]
      simp (disch := first | assumption | omega) only [mS_c, mS_l, mS_r, mS_i, mS_j, mS_pi, mS_pj, lt_st, bq_s, bV_s, bI_s, bJ_s, bA_s, w_C, w_R0, w_R1, w_R2, w_R3, w_R4, w_R5, w_R6, w_R7, w_C1, w_C2, w_C3, w_C4, w_C5, w_C6, w_C12, w_L1, w_L2, w_L3, w_L4, w_L5, w_L6, w_L12, w_cp, w_rp, w_ce, w_re, w_cc, w_rc, w_cd, w_rd, nI_add, nI_clamp, n_ge0, n_lt, n_eq, pk_mul, n_lef, n_let, n_ltf, n_ltt, Nat.reduceLeDiff, Nat.reduceEqDiff, Nat.reduceAdd, Nat.reduceMul, Nat.reduceSub, if_true, if_false, eq_self, true_and, and_true, false_or, or_false, true_or, or_true, false_and, and_false, not_true, not_false_eq_true, ne_eq, ite_self, ite_not, ↓reduceIte, h.pF, abv, l0]
      by_cases h1 : t >>> (nI 0 &&& 31) &&& nI 1 = 0 <;> by_cases h2 : pF s 0 2 < 0 <;> by_cases h3 : pF s 0 3 < 0 <;> simp only [h1, h2, h3, if_true, if_false, eq_self, true_and, and_true, false_or, or_false, true_or, or_true, false_and, and_false, not_true, not_false_eq_true, ne_eq, ite_self, ite_not, ↓reduceIte, or_0]
    | succ q ih =>
      intro t hq
      rw [e_90_6]
      have e1 : nI (q + 1) - nI 1 = nI q := by rw [n_sub (by omega)]; rfl
      simp (disch := first | assumption | omega) only [mS_c, mS_l, mS_r, mS_i, mS_j, mS_pi, mS_pj, lt_st, bq_s, bV_s, bI_s, bJ_s, bA_s, w_C, w_R0, w_R1, w_R2, w_R3, w_R4, w_R5, w_R6, w_R7, w_C1, w_C2, w_C3, w_C4, w_C5, w_C6, w_C12, w_L1, w_L2, w_L3, w_L4, w_L5, w_L6, w_L12, w_cp, w_rp, w_ce, w_re, w_cc, w_rc, w_cd, w_rd, nI_add, nI_clamp, n_ge0, n_lt, n_eq, pk_mul, n_lef, n_let, n_ltf, n_ltt, Nat.reduceLeDiff, Nat.reduceEqDiff, Nat.reduceAdd, Nat.reduceMul, Nat.reduceSub, if_true, if_false, eq_self, true_and, and_true, false_or, or_false, true_or, or_true, false_and, and_false, not_true, not_false_eq_true, ne_eq, ite_self, ite_not, ↓reduceIte, h.pF, e1, ih]
      rw [show abv s (q + 1 + 1) t = _ from rfl]
      by_cases h1 : t >>> (nI (q + 1) &&& 31) &&& nI 1 = 0 <;> by_cases h2 : pF s (q + 1) 2 < 0 <;> by_cases h3 : pF s (q + 1) 3 < 0 <;> simp only [h1, h2, h3, if_true, if_false, eq_self, true_and, and_true, false_or, or_false, true_or, or_true, false_and, and_false, not_true, not_false_eq_true, ne_eq, ite_self, ite_not, ↓reduceIte, or_0, abv]
  rw [c_90 (w_C hw)]
  exact lp p _ hp
end B1
