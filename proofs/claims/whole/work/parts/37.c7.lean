/-! ===== votes and rooted ===== -/
abbrev root (s : Rw) (p : Nat) : Nat := rt s (nP s) p
def cdR (s : Rw) (r q : Nat) : Prop := cnd s q ∧ root s q = r
noncomputable def cR (s : Rw) (r : Nat) : Nat → Nat
  | 0 => 0
  | n + 1 => cR s r n + @ite _ (cdR s r n) (Classical.propDecidable _) 1 0
theorem cR_t {s : Rw} {r n : Nat} (h : cdR s r n) : cR s r (n + 1) = cR s r n + 1 := congrArg (cR s r n + ·) (if_pos h)
theorem cR_f {s : Rw} {r n : Nat} (h : ¬ cdR s r n) : cR s r (n + 1) = cR s r n := congrArg (cR s r n + ·) (if_neg h)
theorem cR_le {s : Rw} {r : Nat} : ∀ n, cR s r n ≤ n
  | 0 => Nat.le_refl _
  | n + 1 => by
    have := cR_le (s := s) (r := r) n
    by_cases h : cdR s r n
    · rw [cR_t h]; omega
    · rw [cR_f h]; omega
theorem cR_pos {s : Rw} {r q : Nat} (h : cdR s r q) : ∀ n, q < n → 1 ≤ cR s r n
  | 0, hq => by omega
  | n + 1, hq => by
    by_cases e : q = n
    · subst e; rw [cR_t h]; omega
    · have := cR_pos h n (by omega)
      by_cases h2 : cdR s r n
      · rw [cR_t h2]; omega
      · rw [cR_f h2]; exact this
def lst (s : Rw) (p : Nat) : Prop := ∀ q, q < p → ¬ cdR s (root s p) q
noncomputable def lsD (s : Rw) (r n : Nat) : Nat → Int32
  | 0 => Int32.ofInt (-1)
  | j + 1 => @ite _ (cdR s r (n - 1 - j)) (Classical.propDecidable _) (nI (n - 1 - j)) (lsD s r n j)
theorem lsD_t {s : Rw} {r n j : Nat} (h : cdR s r (n - 1 - j)) : lsD s r n (j + 1) = nI (n - 1 - j) := if_pos h
theorem lsD_f {s : Rw} {r n j : Nat} (h : ¬ cdR s r (n - 1 - j)) : lsD s r n (j + 1) = lsD s r n j := if_neg h
theorem lsD_iff {s : Rw} {r n p : Nat} (hn : n ≤ 12) (hp : p < n) : ∀ j, j ≤ n → (nI p = lsD s r n j ↔ n - j ≤ p ∧ cdR s r p ∧ ∀ q, n - j ≤ q → q < p → ¬ cdR s r q)
  | 0, _ => ⟨fun h => absurd h (by
      show ¬ nI p = Int32.ofInt (-1)
      intro e
      have : nI p < 0 := by rw [e]; decide +kernel
      exact nI_pos (by omega) this), fun h => by omega⟩
  | j + 1, hj => by
    have ih := lsD_iff (s := s) (r := r) hn hp j (by omega)
    by_cases h : cdR s r (n - 1 - j)
    · rw [lsD_t h, nI_eq (by omega) (by omega)]
      refine ⟨fun e => ?_, fun hh => ?_⟩
      · subst e
        exact ⟨by omega, h, fun q h1 h2 => by omega⟩
      · by_cases e : p = n - 1 - j
        · exact e
        · exact absurd h (hh.2.2 (n - 1 - j) (by omega) (by omega))
    · rw [lsD_f h, ih]
      refine ⟨fun hh => ⟨by omega, hh.2.1, fun q h1 h2 => ?_⟩, fun hh => ⟨?_, hh.2.1, fun q h1 h2 => hh.2.2 q (by omega) h2⟩⟩
      · by_cases e : q = n - 1 - j
        · subst e; exact h
        · exact hh.2.2 q (by omega) h2
      · by_cases e : p = n - 1 - j
        · subst e; exact absurd hh.2.1 h
        · omega
noncomputable def vlaw (s : Rw) (p : Nat) : Int32 := lawV s (nI 3) (fct (s 0) (s 1) (nI 0) (pF s p 0) (nI 0) (nI 0))
/-- 0 no vote, 1 one, 2 a share of one -/
noncomputable def vt (s : Rw) (p : Nat) : Nat := @ite _ (cnd s p) (Classical.propDecidable _) (if vlaw s p = nI 0 then 1 else if vlaw s p = nI 2 then 2 else @ite _ (lst s p) (Classical.propDecidable _) 1 0) 0
noncomputable def blw (s : Rw) (p : Nat) : Nat := if vt s p = 2 then cR s (root s p) (nP s) else vt s p
noncomputable def v_votes (s : Rw) (x y : Int32) : Int32 := if isP s x then (if y = nI 0 then (if vt s x.toNatClampNeg = 0 then nI 0 else nI 1) else if y = nI 1 then (if vt s x.toNatClampNeg = 2 then nI (cR s (root s x.toNatClampNeg) (nP s)) else nI 1) else Int32.ofInt (-1)) else Int32.ofInt (-1)
theorem vt_f {s : Rw} {p : Nat} (h : ¬ cnd s p) : vt s p = 0 := if_neg h
theorem vt_t {s : Rw} {p : Nat} (h : cnd s p) : vt s p = (if vlaw s p = nI 0 then 1 else if vlaw s p = nI 2 then 2 else @ite _ (lst s p) (Classical.propDecidable _) 1 0) := if_pos h
/-- how many with a root vote so -/
noncomputable def oV (s : Rw) (r v : Nat) : Nat → Nat
  | 0 => 0
  | n + 1 => oV s r v n + (if root s n = r ∧ vt s n = v then 1 else 0)
noncomputable def v_root (s : Rw) (x : Int32) : Int32 := if isP s x then (if pF s x.toNatClampNeg 1 = nI 1 then (let r := x.toNatClampNeg
   if oV s r 2 (nP s) = 0 then nI (oV s r 1 (nP s)) else nI (oV s r 1 (nP s)) + nI (oV s r 2 (nP s)) / nI (cR s r (nP s))) else Int32.ofInt (-3)) else Int32.ofInt (-1)
theorem oV_le {s : Rw} {r v : Nat} : ∀ n, oV s r v n ≤ n
  | 0 => Nat.le_refl _
  | n + 1 => by
    have := oV_le (s := s) (r := r) (v := v) n
    unfold oV
    split <;> omega
theorem oV_s {s : Rw} {r v n : Nat} : oV s r v (n + 1) = oV s r v n + (if root s n = r ∧ vt s n = v then 1 else 0) := rfl
theorem vt_le {s : Rw} {p : Nat} : vt s p ≤ 2 := by
  by_cases h : cnd s p
  · rw [vt_t h]
    split
    · omega
    · split
      · omega
      · split <;> omega
  · rw [vt_f h]; omega
theorem vt2_c {s : Rw} {p : Nat} (h : vt s p = 2) : cnd s p := Classical.byContradiction fun hn => by rw [vt_f hn] at h; omega
theorem oV2_pos {s : Rw} {r : Nat} : ∀ n, 1 ≤ oV s r 2 n → ∃ q, q < n ∧ cdR s r q
  | 0, h => by
    have h : 1 ≤ 0 := h
    omega
  | n + 1, h => by
    rw [oV_s] at h
    by_cases e : root s n = r ∧ vt s n = 2
    · exact ⟨n, by omega, vt2_c e.2, e.1⟩
    · rw [if_neg e] at h
      obtain ⟨q, hq, hc⟩ := oV2_pos n (by omega)
      exact ⟨q, by omega, hc⟩
section C7
variable {I : mI} {J : mJ} {w p q e c d l b g r : Nat} {s : Rw} {x y key day : Int32}
/-- what the model's questions may leave otherwise -/
abbrev FM (I' I : mI) : Prop := (∀ a, a ≠ 229 → a ≠ 236 → a ≠ 237 → a ≠ 238 → a ≠ 240 → I' a = I a) ∧ ∀ k, (k < 19 ∨ 22 < k) → I' 229 k = I 229 k
theorem FM.rf : FM I I := ⟨fun _ _ _ _ _ _ => rfl, fun _ _ => rfl⟩
theorem FM.tr {I I1 I2 : mI} (h1 : FM I1 I) (h2 : FM I2 I1) : FM I2 I := ⟨fun a x1 x2 x3 x4 x5 => by rw [h2.1 a x1 x2 x3 x4 x5, h1.1 a x1 x2 x3 x4 x5], fun k hk => by rw [h2.2 k hk, h1.2 k hk]⟩
theorem FM.f2 {I I1 : mI} (h : F2 236 237 I1 I) : FM I1 I := ⟨fun a _ x2 x3 _ _ => h a x2 x3, fun k _ => by rw [h 229 (by decide) (by decide)]⟩
theorem FM.k0 {I I1 : mI} (h : F1 240 I1 I) : FM I1 I := ⟨fun a _ _ _ _ x5 => h a x5, fun k _ => by rw [h 229 (by decide)]⟩
theorem FM.w9 {I : mI} {k : Nat} {v : Int32} (h : 19 ≤ k ∧ k ≤ 22) : FM (wI I 229 k v) I := ⟨fun a x1 _ _ _ _ => wI_F1 a x1, fun j hj => wI_nk (by omega)⟩
theorem FM.sr {I I1 : mI} (h : FM I1 I) : I1 230 = I 230 := h.1 230 (by decide) (by decide) (by decide) (by decide) (by decide)
/-! the class -/
theorem k52 (h : Rep I 1 s) (hW : WF s) (hp : p < nP s) : ∃ I', FC I' I ∧ am_cal (g + 5) 52 [.ref 195, .int (nI p)] (mS I J) = some (some (.int (nI (blw s p))), mS I' J) := by
  have h12 := hW.nP.1
  rw [c_52 lc_195]
  simp only [lc_195, lr_195_0, k51 h hW hp, k89 W1 h hW hp, bq_s, mS_c, mS_l, mS_r, mS_i, mS_j, mS_pi, mS_pj, lt_st, bq_s, bV_s, bI_s, bJ_s, bA_s, nz_0, nc_0, nz_1, nc_1, nz_2, nc_2, nz_3, nc_3, nz_4, nc_4, nz_5, nc_5, nz_6, nc_6, nz_7, nc_7, nz_8, nc_8, nz_9, nc_9, nz_10, nc_10, nz_11, nc_11, nz_12, nc_12, if_true, if_false, eq_self, true_and, and_true, false_or, or_false, true_or, or_true, false_and, and_false, not_true, not_false_eq_true, ne_eq, ite_self, ite_not, ↓reduceIte, n_101, n_107, n_11]
  by_cases hc : cnd s p
  · rw [if_b2t hc]
    obtain ⟨I', hF, hr⟩ := k87 (d := g) (J := J) (key := nI 3) W1 h hW hp
    refine ⟨I', FC.f1 hF, ?_⟩
    have lp : ∀ n k (x4 : Int32), k + n = nP s → (x4 = b2 (∀ q, q < p → q < k → ¬ cdR s (root s p) q)) → am_X (am_cal (g + 4)) 52 17 [.ref 195, .int (nI p), .int (nI (root s p)), .int (nI (cR s (root s p) k)), .int x4, .int (nI k)] [] (mS I J) = some (some (.int (nI (blw s p))), mS I' J) := by
      intro n
      induction n with
      | zero =>
        intro k x4 hk hx
        have e : k = nP s := by omega
        subst e
        have hl : (∀ q, q < p → q < nP s → ¬ cdR s (root s p) q) ↔ lst s p := ⟨fun hh q hq => hh q hq (by omega), fun hh q hq _ => hh q hq⟩
        rw [b2_iff hl] at hx
        rw [e_52_17]
        simp only [lc_195, lr_195_0, w_C W1, h.ppl, hW.nP.2, n_lt (show nP s < 2 ^ 31 by omega) (show nP s < 2 ^ 31 by omega), n_ltf (Nat.le_refl _), hr, hx, bq_s, mS_c, mS_l, mS_r, mS_i, mS_j, mS_pi, mS_pj, lt_st, bq_s, bV_s, bI_s, bJ_s, bA_s, nz_0, nc_0, nz_1, nc_1, nz_2, nc_2, nz_3, nc_3, nz_4, nc_4, nz_5, nc_5, nz_6, nc_6, nz_7, nc_7, nz_8, nc_8, nz_9, nc_9, nz_10, nc_10, nz_11, nc_11, nz_12, nc_12, if_true, if_false, eq_self, true_and, and_true, false_or, or_false, true_or, or_true, false_and, and_false, not_true, not_false_eq_true, ne_eq, ite_self, ite_not, ↓reduceIte, n_101, n_107, n_11]
        have hv : vlaw s p = lawV s (nI 3) (fct (s 0) (nI (nP s)) (nI 0) (pF s p 0) (nI 0) (nI 0)) := by unfold vlaw; rw [hW.nP.2]
        rw [← hv]
        unfold blw
        rw [vt_t hc]
        rcases lawV_23 hW (k := 3) (Or.inr rfl) (f := fct (s 0) (nI (nP s)) (nI 0) (pF s p 0) (nI 0) (nI 0)) with e | e | e
        · rw [← hv] at e
          simp only [e, nn_0_1, nn_0_2, nn_0_3, nn_0_4, nn_0_5, nn_0_6, nn_0_7, nn_0_8, nn_1_0, nn_1_2, nn_1_3, nn_1_4, nn_1_5, nn_1_6, nn_1_7, nn_1_8, nn_2_0, nn_2_1, nn_2_3, nn_2_4, nn_2_5, nn_2_6, nn_2_7, nn_2_8, nn_3_0, nn_3_1, nn_3_2, nn_3_4, nn_3_5, nn_3_6, nn_3_7, nn_3_8, nn_4_0, nn_4_1, nn_4_2, nn_4_3, nn_4_5, nn_4_6, nn_4_7, nn_4_8, nn_5_0, nn_5_1, nn_5_2, nn_5_3, nn_5_4, nn_5_6, nn_5_7, nn_5_8, nn_6_0, nn_6_1, nn_6_2, nn_6_3, nn_6_4, nn_6_5, nn_6_7, nn_6_8, nn_7_0, nn_7_1, nn_7_2, nn_7_3, nn_7_4, nn_7_5, nn_7_6, nn_7_8, nn_8_0, nn_8_1, nn_8_2, nn_8_3, nn_8_4, nn_8_5, nn_8_6, nn_8_7, nq_0, nq_1, nq_2, nq_3, nq_4, nq_5, nq_6, nq_7, nq_8, bq_s, mS_c, mS_l, mS_r, mS_i, mS_j, mS_pi, mS_pj, lt_st, bq_s, bV_s, bI_s, bJ_s, bA_s, nz_0, nc_0, nz_1, nc_1, nz_2, nc_2, nz_3, nc_3, nz_4, nc_4, nz_5, nc_5, nz_6, nc_6, nz_7, nc_7, nz_8, nc_8, nz_9, nc_9, nz_10, nc_10, nz_11, nc_11, nz_12, nc_12, if_true, if_false, eq_self, true_and, and_true, false_or, or_false, true_or, or_true, false_and, and_false, not_true, not_false_eq_true, ne_eq, ite_self, ite_not, ↓reduceIte, n_101, n_107, n_11, show (1 = 2) = False from eq_false (by decide)]
        · rw [← hv] at e
          by_cases hl : lst s p
          · simp only [e, nn_0_1, nn_0_2, nn_0_3, nn_0_4, nn_0_5, nn_0_6, nn_0_7, nn_0_8, nn_1_0, nn_1_2, nn_1_3, nn_1_4, nn_1_5, nn_1_6, nn_1_7, nn_1_8, nn_2_0, nn_2_1, nn_2_3, nn_2_4, nn_2_5, nn_2_6, nn_2_7, nn_2_8, nn_3_0, nn_3_1, nn_3_2, nn_3_4, nn_3_5, nn_3_6, nn_3_7, nn_3_8, nn_4_0, nn_4_1, nn_4_2, nn_4_3, nn_4_5, nn_4_6, nn_4_7, nn_4_8, nn_5_0, nn_5_1, nn_5_2, nn_5_3, nn_5_4, nn_5_6, nn_5_7, nn_5_8, nn_6_0, nn_6_1, nn_6_2, nn_6_3, nn_6_4, nn_6_5, nn_6_7, nn_6_8, nn_7_0, nn_7_1, nn_7_2, nn_7_3, nn_7_4, nn_7_5, nn_7_6, nn_7_8, nn_8_0, nn_8_1, nn_8_2, nn_8_3, nn_8_4, nn_8_5, nn_8_6, nn_8_7, nq_0, nq_1, nq_2, nq_3, nq_4, nq_5, nq_6, nq_7, nq_8, bq_s, mS_c, mS_l, mS_r, mS_i, mS_j, mS_pi, mS_pj, lt_st, bq_s, bV_s, bI_s, bJ_s, bA_s, nz_0, nc_0, nz_1, nc_1, nz_2, nc_2, nz_3, nc_3, nz_4, nc_4, nz_5, nc_5, nz_6, nc_6, nz_7, nc_7, nz_8, nc_8, nz_9, nc_9, nz_10, nc_10, nz_11, nc_11, nz_12, nc_12, if_true, if_false, eq_self, true_and, and_true, false_or, or_false, true_or, or_true, false_and, and_false, not_true, not_false_eq_true, ne_eq, ite_self, ite_not, ↓reduceIte, n_101, n_107, n_11]
            rw [if_b2t hl, if_pos hl]
            simp only [show (1 = 2) = False from eq_false (by decide), bq_s, mS_c, mS_l, mS_r, mS_i, mS_j, mS_pi, mS_pj, lt_st, bq_s, bV_s, bI_s, bJ_s, bA_s, nz_0, nc_0, nz_1, nc_1, nz_2, nc_2, nz_3, nc_3, nz_4, nc_4, nz_5, nc_5, nz_6, nc_6, nz_7, nc_7, nz_8, nc_8, nz_9, nc_9, nz_10, nc_10, nz_11, nc_11, nz_12, nc_12, if_true, if_false, eq_self, true_and, and_true, false_or, or_false, true_or, or_true, false_and, and_false, not_true, not_false_eq_true, ne_eq, ite_self, ite_not, ↓reduceIte, n_101, n_107, n_11]
          · simp only [e, nn_0_1, nn_0_2, nn_0_3, nn_0_4, nn_0_5, nn_0_6, nn_0_7, nn_0_8, nn_1_0, nn_1_2, nn_1_3, nn_1_4, nn_1_5, nn_1_6, nn_1_7, nn_1_8, nn_2_0, nn_2_1, nn_2_3, nn_2_4, nn_2_5, nn_2_6, nn_2_7, nn_2_8, nn_3_0, nn_3_1, nn_3_2, nn_3_4, nn_3_5, nn_3_6, nn_3_7, nn_3_8, nn_4_0, nn_4_1, nn_4_2, nn_4_3, nn_4_5, nn_4_6, nn_4_7, nn_4_8, nn_5_0, nn_5_1, nn_5_2, nn_5_3, nn_5_4, nn_5_6, nn_5_7, nn_5_8, nn_6_0, nn_6_1, nn_6_2, nn_6_3, nn_6_4, nn_6_5, nn_6_7, nn_6_8, nn_7_0, nn_7_1, nn_7_2, nn_7_3, nn_7_4, nn_7_5, nn_7_6, nn_7_8, nn_8_0, nn_8_1, nn_8_2, nn_8_3, nn_8_4, nn_8_5, nn_8_6, nn_8_7, nq_0, nq_1, nq_2, nq_3, nq_4, nq_5, nq_6, nq_7, nq_8, bq_s, mS_c, mS_l, mS_r, mS_i, mS_j, mS_pi, mS_pj, lt_st, bq_s, bV_s, bI_s, bJ_s, bA_s, nz_0, nc_0, nz_1, nc_1, nz_2, nc_2, nz_3, nc_3, nz_4, nc_4, nz_5, nc_5, nz_6, nc_6, nz_7, nc_7, nz_8, nc_8, nz_9, nc_9, nz_10, nc_10, nz_11, nc_11, nz_12, nc_12, if_true, if_false, eq_self, true_and, and_true, false_or, or_false, true_or, or_true, false_and, and_false, not_true, not_false_eq_true, ne_eq, ite_self, ite_not, ↓reduceIte, n_101, n_107, n_11]
            rw [if_b2f hl, if_neg hl]
            simp only [show (0 = 2) = False from eq_false (by decide), bq_s, mS_c, mS_l, mS_r, mS_i, mS_j, mS_pi, mS_pj, lt_st, bq_s, bV_s, bI_s, bJ_s, bA_s, nz_0, nc_0, nz_1, nc_1, nz_2, nc_2, nz_3, nc_3, nz_4, nc_4, nz_5, nc_5, nz_6, nc_6, nz_7, nc_7, nz_8, nc_8, nz_9, nc_9, nz_10, nc_10, nz_11, nc_11, nz_12, nc_12, if_true, if_false, eq_self, true_and, and_true, false_or, or_false, true_or, or_true, false_and, and_false, not_true, not_false_eq_true, ne_eq, ite_self, ite_not, ↓reduceIte, n_101, n_107, n_11]
        · rw [← hv] at e
          simp only [e, nn_0_1, nn_0_2, nn_0_3, nn_0_4, nn_0_5, nn_0_6, nn_0_7, nn_0_8, nn_1_0, nn_1_2, nn_1_3, nn_1_4, nn_1_5, nn_1_6, nn_1_7, nn_1_8, nn_2_0, nn_2_1, nn_2_3, nn_2_4, nn_2_5, nn_2_6, nn_2_7, nn_2_8, nn_3_0, nn_3_1, nn_3_2, nn_3_4, nn_3_5, nn_3_6, nn_3_7, nn_3_8, nn_4_0, nn_4_1, nn_4_2, nn_4_3, nn_4_5, nn_4_6, nn_4_7, nn_4_8, nn_5_0, nn_5_1, nn_5_2, nn_5_3, nn_5_4, nn_5_6, nn_5_7, nn_5_8, nn_6_0, nn_6_1, nn_6_2, nn_6_3, nn_6_4, nn_6_5, nn_6_7, nn_6_8, nn_7_0, nn_7_1, nn_7_2, nn_7_3, nn_7_4, nn_7_5, nn_7_6, nn_7_8, nn_8_0, nn_8_1, nn_8_2, nn_8_3, nn_8_4, nn_8_5, nn_8_6, nn_8_7, nq_0, nq_1, nq_2, nq_3, nq_4, nq_5, nq_6, nq_7, nq_8, bq_s, mS_c, mS_l, mS_r, mS_i, mS_j, mS_pi, mS_pj, lt_st, bq_s, bV_s, bI_s, bJ_s, bA_s, nz_0, nc_0, nz_1, nc_1, nz_2, nc_2, nz_3, nc_3, nz_4, nc_4, nz_5, nc_5, nz_6, nc_6, nz_7, nc_7, nz_8, nc_8, nz_9, nc_9, nz_10, nc_10, nz_11, nc_11, nz_12, nc_12, if_true, if_false, eq_self, true_and, and_true, false_or, or_false, true_or, or_true, false_and, and_false, not_true, not_false_eq_true, ne_eq, ite_self, ite_not, ↓reduceIte, n_101, n_107, n_11]
      | succ n ih =>
        intro k x4 hk hx
        have hkn : k < nP s := by omega
        rw [e_52_17]
        simp only [lc_195, lr_195_0, w_C W1, h.ppl, hW.nP.2, n_lt (show k < 2 ^ 31 by omega) (show nP s < 2 ^ 31 by omega), n_ltt hkn, k51 h hW hkn, k89 W1 h hW hkn, nI_add, n_eq (show rt s (nP s) k < 2 ^ 31 by have := rt_lt hW (nP s) k hkn; omega) (show root s p < 2 ^ 31 by have := rt_lt hW (nP s) p hp; unfold root; omega), n_lt (show k < 2 ^ 31 by omega) (show p < 2 ^ 31 by omega), bq_s, mS_c, mS_l, mS_r, mS_i, mS_j, mS_pi, mS_pj, lt_st, bq_s, bV_s, bI_s, bJ_s, bA_s, nz_0, nc_0, nz_1, nc_1, nz_2, nc_2, nz_3, nc_3, nz_4, nc_4, nz_5, nc_5, nz_6, nc_6, nz_7, nc_7, nz_8, nc_8, nz_9, nc_9, nz_10, nc_10, nz_11, nc_11, nz_12, nc_12, if_true, if_false, eq_self, true_and, and_true, false_or, or_false, true_or, or_true, false_and, and_false, not_true, not_false_eq_true, ne_eq, ite_self, ite_not, ↓reduceIte, n_101, n_107, n_11]
        by_cases hck : cnd s k
        · rw [if_b2t hck]
          by_cases hrt : rt s (nP s) k = root s p
          · rw [if_pos hrt]
            have hcd : cdR s (root s p) k := ⟨hck, hrt⟩
            rw [show cR s (root s p) k + 1 = cR s (root s p) (k + 1) from (cR_t hcd).symm]
            by_cases hkp : k < p
            · rw [if_pos hkp]
              exact ih (k + 1) _ (by omega) (by rw [b2_f (fun hh => hh k hkp (by omega) hcd)])
            · rw [if_neg hkp]
              exact ih (k + 1) _ (by omega) (by rw [hx]; exact b2_iff ⟨fun hh q h1 h2 => hh q h1 (by omega), fun hh q h1 h2 => hh q h1 (by omega)⟩)
          · rw [if_neg hrt]
            have hcd : ¬ cdR s (root s p) k := fun hh => hrt hh.2
            rw [show cR s (root s p) k = cR s (root s p) (k + 1) from (cR_f hcd).symm]
            exact ih (k + 1) _ (by omega) (by rw [hx]; exact b2_iff ⟨fun hh q h1 h2 => by
              by_cases e : q = k
              · subst e; exact hcd
              · exact hh q h1 (by omega), fun hh q h1 h2 => hh q h1 (by omega)⟩)
        · rw [if_b2f hck]
          have hcd : ¬ cdR s (root s p) k := fun hh => hck hh.1
          rw [show cR s (root s p) k = cR s (root s p) (k + 1) from (cR_f hcd).symm]
          exact ih (k + 1) _ (by omega) (by rw [hx]; exact b2_iff ⟨fun hh q h1 h2 => by
            by_cases e : q = k
            · subst e; exact hcd
            · exact hh q h1 (by omega), fun hh q h1 h2 => hh q h1 (by omega)⟩)
    exact lp (nP s) 0 (nI 1) (by omega) (by rw [b2_t (fun q _ h => by omega)])
  · refine ⟨I, FC.rf, ?_⟩
    rw [if_b2f hc]
    unfold blw
    rw [vt_f hc]
    rfl
theorem k147 : am_cal (g + 1) 147 [.int x] (mS I J) = some (some (.int (if i2 x then nI 1 else nI 0)), mS I J) := by
  rw [c_147]
  simp only [n_i0]
  by_cases h0 : x = nI 0
  · simp only [h0, i2, bq_s, mS_c, mS_l, mS_r, mS_i, mS_j, mS_pi, mS_pj, lt_st, bq_s, bV_s, bI_s, bJ_s, bA_s, nz_0, nc_0, nz_1, nc_1, nz_2, nc_2, nz_3, nc_3, nz_4, nc_4, nz_5, nc_5, nz_6, nc_6, nz_7, nc_7, nz_8, nc_8, nz_9, nc_9, nz_10, nc_10, nz_11, nc_11, nz_12, nc_12, if_true, if_false, eq_self, true_and, and_true, false_or, or_false, true_or, or_true, false_and, and_false, not_true, not_false_eq_true, ne_eq, ite_self, ite_not, ↓reduceIte, n_101, n_107, n_11]
  · by_cases h1 : x = nI 1
    · simp only [h1, i2, nn_0_1, nn_0_2, nn_0_3, nn_0_4, nn_0_5, nn_0_6, nn_0_7, nn_0_8, nn_1_0, nn_1_2, nn_1_3, nn_1_4, nn_1_5, nn_1_6, nn_1_7, nn_1_8, nn_2_0, nn_2_1, nn_2_3, nn_2_4, nn_2_5, nn_2_6, nn_2_7, nn_2_8, nn_3_0, nn_3_1, nn_3_2, nn_3_4, nn_3_5, nn_3_6, nn_3_7, nn_3_8, nn_4_0, nn_4_1, nn_4_2, nn_4_3, nn_4_5, nn_4_6, nn_4_7, nn_4_8, nn_5_0, nn_5_1, nn_5_2, nn_5_3, nn_5_4, nn_5_6, nn_5_7, nn_5_8, nn_6_0, nn_6_1, nn_6_2, nn_6_3, nn_6_4, nn_6_5, nn_6_7, nn_6_8, nn_7_0, nn_7_1, nn_7_2, nn_7_3, nn_7_4, nn_7_5, nn_7_6, nn_7_8, nn_8_0, nn_8_1, nn_8_2, nn_8_3, nn_8_4, nn_8_5, nn_8_6, nn_8_7, nq_0, nq_1, nq_2, nq_3, nq_4, nq_5, nq_6, nq_7, nq_8, bq_s, mS_c, mS_l, mS_r, mS_i, mS_j, mS_pi, mS_pj, lt_st, bq_s, bV_s, bI_s, bJ_s, bA_s, nz_0, nc_0, nz_1, nc_1, nz_2, nc_2, nz_3, nc_3, nz_4, nc_4, nz_5, nc_5, nz_6, nc_6, nz_7, nc_7, nz_8, nc_8, nz_9, nc_9, nz_10, nc_10, nz_11, nc_11, nz_12, nc_12, if_true, if_false, eq_self, true_and, and_true, false_or, or_false, true_or, or_true, false_and, and_false, not_true, not_false_eq_true, ne_eq, ite_self, ite_not, ↓reduceIte, n_101, n_107, n_11]
    · simp only [h0, h1, i2, bq_s, mS_c, mS_l, mS_r, mS_i, mS_j, mS_pi, mS_pj, lt_st, bq_s, bV_s, bI_s, bJ_s, bA_s, nz_0, nc_0, nz_1, nc_1, nz_2, nc_2, nz_3, nc_3, nz_4, nc_4, nz_5, nc_5, nz_6, nc_6, nz_7, nc_7, nz_8, nc_8, nz_9, nc_9, nz_10, nc_10, nz_11, nc_11, nz_12, nc_12, if_true, if_false, eq_self, true_and, and_true, false_or, or_false, true_or, or_true, false_and, and_false, not_true, not_false_eq_true, ne_eq, ite_self, ite_not, ↓reduceIte, n_101, n_107, n_11]
theorem k113 (h : Rep I 1 s) (hW : WF s) : ∃ I', FC I' I ∧ am_cal (g + 6) 113 [.ref 0, .int x, .int y] (mS I J) = some (some (.int (v_votes s x y)), mS I' J) := by
  have h12 := hW.nP.1
  rw [c_113 lc_0]
  simp only [lc_0, lr_0_0, k65 W1 h, k147, bq_s, mS_c, mS_l, mS_r, mS_i, mS_j, mS_pi, mS_pj, lt_st, bq_s, bV_s, bI_s, bJ_s, bA_s, nz_0, nc_0, nz_1, nc_1, nz_2, nc_2, nz_3, nc_3, nz_4, nc_4, nz_5, nc_5, nz_6, nc_6, nz_7, nc_7, nz_8, nc_8, nz_9, nc_9, nz_10, nc_10, nz_11, nc_11, nz_12, nc_12, if_true, if_false, eq_self, true_and, and_true, false_or, or_false, true_or, or_true, false_and, and_false, not_true, not_false_eq_true, ne_eq, ite_self, ite_not, ↓reduceIte, n_101, n_107, n_11]
  unfold v_votes
  by_cases hx : isP s x
  · rw [if_pos hx, if_pos hx, if_neg (by decide)]
    by_cases hy : i2 y
    · rw [if_pos hy, if_neg (by decide)]
      obtain ⟨p, hp, rfl⟩ := isP_n hW hx
      obtain ⟨I', hF, hr⟩ := k52 (g := g) (J := J) h hW hp
      have hc12 := cR_le (s := s) (r := root s p) (nP s)
      refine ⟨I', hF, ?_⟩
      simp only [lr_0_6, hr, nI_clamp (show p < 2 ^ 31 by omega), bq_s, mS_c, mS_l, mS_r, mS_i, mS_j, mS_pi, mS_pj, lt_st, bq_s, bV_s, bI_s, bJ_s, bA_s, nz_0, nc_0, nz_1, nc_1, nz_2, nc_2, nz_3, nc_3, nz_4, nc_4, nz_5, nc_5, nz_6, nc_6, nz_7, nc_7, nz_8, nc_8, nz_9, nc_9, nz_10, nc_10, nz_11, nc_11, nz_12, nc_12, if_true, if_false, eq_self, true_and, and_true, false_or, or_false, true_or, or_true, false_and, and_false, not_true, not_false_eq_true, ne_eq, ite_self, ite_not, ↓reduceIte, n_101, n_107, n_11]
      have v2 := vt_le (s := s) (p := p)
      unfold blw
      rcases (show vt s p = 0 ∨ vt s p = 1 ∨ vt s p = 2 by omega) with e | e | e
      · rcases hy with rfl | rfl <;> simp only [e, show (0 = 2) = False from eq_false (by decide), nn_0_1, nn_0_2, nn_0_3, nn_0_4, nn_0_5, nn_0_6, nn_0_7, nn_0_8, nn_1_0, nn_1_2, nn_1_3, nn_1_4, nn_1_5, nn_1_6, nn_1_7, nn_1_8, nn_2_0, nn_2_1, nn_2_3, nn_2_4, nn_2_5, nn_2_6, nn_2_7, nn_2_8, nn_3_0, nn_3_1, nn_3_2, nn_3_4, nn_3_5, nn_3_6, nn_3_7, nn_3_8, nn_4_0, nn_4_1, nn_4_2, nn_4_3, nn_4_5, nn_4_6, nn_4_7, nn_4_8, nn_5_0, nn_5_1, nn_5_2, nn_5_3, nn_5_4, nn_5_6, nn_5_7, nn_5_8, nn_6_0, nn_6_1, nn_6_2, nn_6_3, nn_6_4, nn_6_5, nn_6_7, nn_6_8, nn_7_0, nn_7_1, nn_7_2, nn_7_3, nn_7_4, nn_7_5, nn_7_6, nn_7_8, nn_8_0, nn_8_1, nn_8_2, nn_8_3, nn_8_4, nn_8_5, nn_8_6, nn_8_7, nq_0, nq_1, nq_2, nq_3, nq_4, nq_5, nq_6, nq_7, nq_8, bq_s, mS_c, mS_l, mS_r, mS_i, mS_j, mS_pi, mS_pj, lt_st, bq_s, bV_s, bI_s, bJ_s, bA_s, nz_0, nc_0, nz_1, nc_1, nz_2, nc_2, nz_3, nc_3, nz_4, nc_4, nz_5, nc_5, nz_6, nc_6, nz_7, nc_7, nz_8, nc_8, nz_9, nc_9, nz_10, nc_10, nz_11, nc_11, nz_12, nc_12, if_true, if_false, eq_self, true_and, and_true, false_or, or_false, true_or, or_true, false_and, and_false, not_true, not_false_eq_true, ne_eq, ite_self, ite_not, ↓reduceIte, n_101, n_107, n_11]
      · rcases hy with rfl | rfl <;> simp only [e, show (1 = 2) = False from eq_false (by decide), show (1 = 0) = False from eq_false (by decide), nn_0_1, nn_0_2, nn_0_3, nn_0_4, nn_0_5, nn_0_6, nn_0_7, nn_0_8, nn_1_0, nn_1_2, nn_1_3, nn_1_4, nn_1_5, nn_1_6, nn_1_7, nn_1_8, nn_2_0, nn_2_1, nn_2_3, nn_2_4, nn_2_5, nn_2_6, nn_2_7, nn_2_8, nn_3_0, nn_3_1, nn_3_2, nn_3_4, nn_3_5, nn_3_6, nn_3_7, nn_3_8, nn_4_0, nn_4_1, nn_4_2, nn_4_3, nn_4_5, nn_4_6, nn_4_7, nn_4_8, nn_5_0, nn_5_1, nn_5_2, nn_5_3, nn_5_4, nn_5_6, nn_5_7, nn_5_8, nn_6_0, nn_6_1, nn_6_2, nn_6_3, nn_6_4, nn_6_5, nn_6_7, nn_6_8, nn_7_0, nn_7_1, nn_7_2, nn_7_3, nn_7_4, nn_7_5, nn_7_6, nn_7_8, nn_8_0, nn_8_1, nn_8_2, nn_8_3, nn_8_4, nn_8_5, nn_8_6, nn_8_7, nq_0, nq_1, nq_2, nq_3, nq_4, nq_5, nq_6, nq_7, nq_8, bq_s, mS_c, mS_l, mS_r, mS_i, mS_j, mS_pi, mS_pj, lt_st, bq_s, bV_s, bI_s, bJ_s, bA_s, nz_0, nc_0, nz_1, nc_1, nz_2, nc_2, nz_3, nc_3, nz_4, nc_4, nz_5, nc_5, nz_6, nc_6, nz_7, nc_7, nz_8, nc_8, nz_9, nc_9, nz_10, nc_10, nz_11, nc_11, nz_12, nc_12, if_true, if_false, eq_self, true_and, and_true, false_or, or_false, true_or, or_true, false_and, and_false, not_true, not_false_eq_true, ne_eq, ite_self, ite_not, ↓reduceIte, n_101, n_107, n_11]
      · have hpos := cR_pos (show cdR s (root s p) p from ⟨vt2_c e, rfl⟩) (nP s) hp
        have hne : (nI (cR s (root s p) (nP s)) = 0) = False := eq_false (nI_ne0 (by omega) (by omega))
        rcases hy with rfl | rfl <;> simp only [e, hne, show (2 = 0) = False from eq_false (by decide), nn_0_1, nn_0_2, nn_0_3, nn_0_4, nn_0_5, nn_0_6, nn_0_7, nn_0_8, nn_1_0, nn_1_2, nn_1_3, nn_1_4, nn_1_5, nn_1_6, nn_1_7, nn_1_8, nn_2_0, nn_2_1, nn_2_3, nn_2_4, nn_2_5, nn_2_6, nn_2_7, nn_2_8, nn_3_0, nn_3_1, nn_3_2, nn_3_4, nn_3_5, nn_3_6, nn_3_7, nn_3_8, nn_4_0, nn_4_1, nn_4_2, nn_4_3, nn_4_5, nn_4_6, nn_4_7, nn_4_8, nn_5_0, nn_5_1, nn_5_2, nn_5_3, nn_5_4, nn_5_6, nn_5_7, nn_5_8, nn_6_0, nn_6_1, nn_6_2, nn_6_3, nn_6_4, nn_6_5, nn_6_7, nn_6_8, nn_7_0, nn_7_1, nn_7_2, nn_7_3, nn_7_4, nn_7_5, nn_7_6, nn_7_8, nn_8_0, nn_8_1, nn_8_2, nn_8_3, nn_8_4, nn_8_5, nn_8_6, nn_8_7, nq_0, nq_1, nq_2, nq_3, nq_4, nq_5, nq_6, nq_7, nq_8, bq_s, mS_c, mS_l, mS_r, mS_i, mS_j, mS_pi, mS_pj, lt_st, bq_s, bV_s, bI_s, bJ_s, bA_s, nz_0, nc_0, nz_1, nc_1, nz_2, nc_2, nz_3, nc_3, nz_4, nc_4, nz_5, nc_5, nz_6, nc_6, nz_7, nc_7, nz_8, nc_8, nz_9, nc_9, nz_10, nc_10, nz_11, nc_11, nz_12, nc_12, if_true, if_false, eq_self, true_and, and_true, false_or, or_false, true_or, or_true, false_and, and_false, not_true, not_false_eq_true, ne_eq, ite_self, ite_not, ↓reduceIte, n_101, n_107, n_11]
    · refine ⟨I, FC.rf, ?_⟩
      rw [if_neg hy, if_pos nI_0, if_neg (fun e => hy (Or.inl e)), if_neg (fun e => hy (Or.inr e))]
  · exact ⟨I, FC.rf, by rw [if_neg hx, if_neg hx, if_pos nI_0]⟩
end C7
