/-! ===== debts ===== -/
section I5s
variable {I I' : mI} {J : mJ} {s : Rw} {d k n q p i c m : Nat} {x y z u v w : Int32} {S : Nat → Int32} {Z : Nat → Nat} {T : Nat → Nat → Int32} {Tq : Nat → Int32}
theorem FP.tr' {I I1 I2 : mI} (h1 : FP I1 I) (h2 : FP I2 I1) : FP I2 I := fun a b c e => by rw [h2 a b c e, h1 a b c e]
theorem dbU_W (x : Int32) (Tq : Nat → Int32) (Z i : Nat) : ∀ (n k c : Nat) (s : Rw), WF s → WF (dbU x Tq Z i n k c s).1 := by
  intro n
  induction n with
  | zero => intro k c s h; exact h
  | succ n ih =>
    intro k c s h
    rw [dbU_s]
    by_cases hh : i + k < Z
    · rw [if_pos hh]; exact ih _ _ _ (W_claim h)
    · rw [if_neg hh]; exact h
theorem W_debts (h : WF s) : WF (v_debts s S Z T x y z w).1 := by
  unfold v_debts
  by_cases h1 : okDb s x y w
  · rw [if_pos h1]
    by_cases h2 : S y.toNatClampNeg = Int32.ofInt (-1)
    · rw [if_pos h2]; exact h
    · rw [if_neg h2]
      by_cases h3 : S y.toNatClampNeg = nI 1
      · rw [if_pos h3]
        by_cases h4 : w = nI 0
        · rw [if_pos h4]; exact h
        · rw [if_neg h4]
          by_cases h5 : z < 0
          · rw [if_pos h5]; exact h
          · rw [if_neg h5]; exact dbU_W _ _ _ _ _ _ _ _ h
      · rw [if_neg h3]; exact h
  · rw [if_neg h1]; exact h
theorem e131 (hq : q < 4) (hZ : m ≤ 40) (hi : i < 2 ^ 31) (hN : p ≤ 12) : ∀ n k c s (I : mI), k + n = p → (k ≤ m ∨ k = 0) → c ≤ k → I 226 q = nI m → (∀ j, j < m → I (221 + q) j = Tq j) → Rep I 1 s → WF s →
    ∃ I', FP I' I ∧ Rep I' 1 (dbU x Tq m i n k c s).1 ∧ am_X (am_cal (d + 3)) 131 35 [.ref 0, .int x, .int (nI q), .int (nI i), .int (nI p), .int (nI c), .int (nI k)] [] (mS I J) = some (some (.int (dbU x Tq m i n k c s).2), mS I' J) := by
  have i0c : (nI (q)).toNatClampNeg = q := nI_clamp (by omega)
  have i0z : (nI (q) < 0) = False := n_ge0 (by omega)
  have i0l : (4 ≤ q) = False := n_lef (by omega)
  intro n
  induction n with
  | zero =>
    intro k c s I hk hkm hc h1 h2 hR hW
    have hk' : k = p := by omega
    subst hk'
    refine ⟨I, fun _ _ _ _ => rfl, hR, ?_⟩
    rw [e_131_35]
    simp only [n_lt (show k < 2 ^ 31 by omega) (show k < 2 ^ 31 by omega), Nat.lt_irrefl, dbU, bq_s, mS_c, mS_l, mS_r, mS_i, mS_j, mS_pi, mS_pj, lt_st, bq_s, bV_s, bI_s, bJ_s, bA_s, nz_0, nc_0, nz_1, nc_1, nz_2, nc_2, nz_3, nc_3, nz_4, nc_4, nz_5, nc_5, nz_6, nc_6, nz_7, nc_7, nz_8, nc_8, nz_9, nc_9, nz_10, nc_10, nz_11, nc_11, nz_12, nc_12, if_true, if_false, eq_self, true_and, and_true, false_or, or_false, true_or, or_true, false_and, and_false, not_true, not_false_eq_true, ne_eq, ite_self, ite_not, ↓reduceIte, n_101, n_107, n_11]
  | succ n ih =>
    intro k c s I hk hkm hc h1 h2 hR hW
    have hkm' : k ≤ m := by omega
    have hz : (nI i < 0) = False := n_ge0 hi
    have hs : nI m - nI k = nI (m - k) := n_sub hkm'
    rw [e_131_35, dbU_s]
    by_cases hh : i + k < m
    · skip
      have i1c : (nI (i + k)).toNatClampNeg = i + k := nI_clamp (by omega)
      have i1z : (nI (i + k) < 0) = False := n_ge0 (by omega)
      have i1l : (40 ≤ i + k) = False := n_lef (by omega)
      obtain ⟨I1, a1, a2, a3⟩ := k104 (d := d) (J := J) (x := nI 0) (y := x) (z := Tq (i + k)) hR hW
      have f1 : I1 226 = I 226 := a1 226 (by omega) (by decide) (by decide)
      have f2 : I1 (221 + q) = I (221 + q) := a1 (221 + q) (by omega) (by omega) (by omega)
      rw [if_pos hh]
      by_cases hv : v_claim s (nI 0) x (Tq (i + k)) < 0
      · rw [if_pos hv]
        obtain ⟨I', b1, b2, b3⟩ := ih (k + 1) c (tr_claim s (nI 0) x (Tq (i + k))) I1 (by omega) (Or.inl (by omega)) (by omega) (by rw [f1]; exact h1) (fun j hj => by rw [f2]; exact h2 j hj) a2 (W_claim hW)
        refine ⟨I', a1.tr' b1, b2, ?_⟩
        simp only [n_lt (show k < 2 ^ 31 by omega) (show p < 2 ^ 31 by omega), eq_true (show k < p by omega), hz, hs, lc_0, lr_0_11, lr_0_13, lc_226, ll_226, lc_220_ok, ll_220, sh_r hq, sh_c hq, sh_l hq, i0c, i0z, i0l, i1c, i1z, i1l, h1, n_lt hi (show m - k < 2 ^ 31 by omega), eq_true (show i < m - k by omega), h2 (i + k) hh, a3, eq_true hv, nI_add, bq_s, mS_c, mS_l, mS_r, mS_i, mS_j, mS_pi, mS_pj, lt_st, bq_s, bV_s, bI_s, bJ_s, bA_s, nz_0, nc_0, nz_1, nc_1, nz_2, nc_2, nz_3, nc_3, nz_4, nc_4, nz_5, nc_5, nz_6, nc_6, nz_7, nc_7, nz_8, nc_8, nz_9, nc_9, nz_10, nc_10, nz_11, nc_11, nz_12, nc_12, if_true, if_false, eq_self, true_and, and_true, false_or, or_false, true_or, or_true, false_and, and_false, not_true, not_false_eq_true, ne_eq, ite_self, ite_not, ↓reduceIte, n_101, n_107, n_11]
        exact b3
      · rw [if_neg hv]
        obtain ⟨I', b1, b2, b3⟩ := ih (k + 1) (c + 1) (tr_claim s (nI 0) x (Tq (i + k))) I1 (by omega) (Or.inl (by omega)) (by omega) (by rw [f1]; exact h1) (fun j hj => by rw [f2]; exact h2 j hj) a2 (W_claim hW)
        refine ⟨I', a1.tr' b1, b2, ?_⟩
        simp only [n_lt (show k < 2 ^ 31 by omega) (show p < 2 ^ 31 by omega), eq_true (show k < p by omega), hz, hs, lc_0, lr_0_11, lr_0_13, lc_226, ll_226, lc_220_ok, ll_220, sh_r hq, sh_c hq, sh_l hq, i0c, i0z, i0l, i1c, i1z, i1l, h1, n_lt hi (show m - k < 2 ^ 31 by omega), eq_true (show i < m - k by omega), h2 (i + k) hh, a3, eq_false hv, nI_add, bq_s, mS_c, mS_l, mS_r, mS_i, mS_j, mS_pi, mS_pj, lt_st, bq_s, bV_s, bI_s, bJ_s, bA_s, nz_0, nc_0, nz_1, nc_1, nz_2, nc_2, nz_3, nc_3, nz_4, nc_4, nz_5, nc_5, nz_6, nc_6, nz_7, nc_7, nz_8, nc_8, nz_9, nc_9, nz_10, nc_10, nz_11, nc_11, nz_12, nc_12, if_true, if_false, eq_self, true_and, and_true, false_or, or_false, true_or, or_true, false_and, and_false, not_true, not_false_eq_true, ne_eq, ite_self, ite_not, ↓reduceIte, n_101, n_107, n_11]
        exact b3
    · rw [if_neg hh]
      refine ⟨I, fun _ _ _ _ => rfl, hR, ?_⟩
      simp only [n_lt (show k < 2 ^ 31 by omega) (show p < 2 ^ 31 by omega), eq_true (show k < p by omega), hz, hs, lc_0, lr_0_13, lc_226, ll_226, i0c, i0z, i0l, h1, n_lt hi (show m - k < 2 ^ 31 by omega), eq_false (show ¬ i < m - k by omega), bq_s, mS_c, mS_l, mS_r, mS_i, mS_j, mS_pi, mS_pj, lt_st, bq_s, bV_s, bI_s, bJ_s, bA_s, nz_0, nc_0, nz_1, nc_1, nz_2, nc_2, nz_3, nc_3, nz_4, nc_4, nz_5, nc_5, nz_6, nc_6, nz_7, nc_7, nz_8, nc_8, nz_9, nc_9, nz_10, nc_10, nz_11, nc_11, nz_12, nc_12, if_true, if_false, eq_self, true_and, and_true, false_or, or_false, true_or, or_true, false_and, and_false, not_true, not_false_eq_true, ne_eq, ite_self, ite_not, ↓reduceIte, n_101, n_107, n_11]
theorem k131 (hw : wfS S Z) (hC : ShC I S Z T) (hR : Rep I 1 s) (hW : WF s) : ∃ I', FP I' I ∧ Rep I' 1 (v_debts s S Z T x y z w).1 ∧ am_cal (d + 4) 131 [.ref 0, .int x, .int y, .int z, .int w] (mS I J) = some (some (.int (v_debts s S Z T x y z w).2), mS I' J) := by
  have nope : ∀ r, v_debts s S Z T x y z w = (s, r) → am_cal (d + 4) 131 [.ref 0, .int x, .int y, .int z, .int w] (mS I J) = some (some (.int r), mS I J) → ∃ I', FP I' I ∧ Rep I' 1 (v_debts s S Z T x y z w).1 ∧ am_cal (d + 4) 131 [.ref 0, .int x, .int y, .int z, .int w] (mS I J) = some (some (.int (v_debts s S Z T x y z w).2), mS I' J) := fun r hr h => by
    rw [hr]
    exact ⟨I, fun _ _ _ _ => rfl, hR, h⟩
  have e0 : am_cal (d + 4) 131 [.ref 0, .int x, .int y, .int z, .int w] (mS I J) = _ := c_131 lc_0
  simp only [lc_0, lr_0_0, k65 W1 hR, k145, bq_s, mS_c, mS_l, mS_r, mS_i, mS_j, mS_pi, mS_pj, lt_st, bq_s, bV_s, bI_s, bJ_s, bA_s, nz_0, nc_0, nz_1, nc_1, nz_2, nc_2, nz_3, nc_3, nz_4, nc_4, nz_5, nc_5, nz_6, nc_6, nz_7, nc_7, nz_8, nc_8, nz_9, nc_9, nz_10, nc_10, nz_11, nc_11, nz_12, nc_12, if_true, if_false, eq_self, true_and, and_true, false_or, or_false, true_or, or_true, false_and, and_false, not_true, not_false_eq_true, ne_eq, ite_self, ite_not, ↓reduceIte, n_101, n_107, n_11] at e0
  by_cases hx : isP s x
  · by_cases hy : isSh y
    · by_cases h0 : w < 0
      · exact nope (Int32.ofInt (-1)) (by unfold v_debts; rw [if_neg (fun h => h.2.2.1 h0)]) (by rw [e0]; simp only [if_pos hx, if_pos hy, z_f, if_pos h0, bq_s, mS_c, mS_l, mS_r, mS_i, mS_j, mS_pi, mS_pj, lt_st, bq_s, bV_s, bI_s, bJ_s, bA_s, nz_0, nc_0, nz_1, nc_1, nz_2, nc_2, nz_3, nc_3, nz_4, nc_4, nz_5, nc_5, nz_6, nc_6, nz_7, nc_7, nz_8, nc_8, nz_9, nc_9, nz_10, nc_10, nz_11, nc_11, nz_12, nc_12, if_true, if_false, eq_self, true_and, and_true, false_or, or_false, true_or, or_true, false_and, and_false, not_true, not_false_eq_true, ne_eq, ite_self, ite_not, ↓reduceIte, n_101, n_107, n_11])
      · by_cases h12 : nI 12 < w
        · exact nope (Int32.ofInt (-1)) (by unfold v_debts; rw [if_neg (fun h => h.2.2.2 h12)]) (by rw [e0]; simp only [if_pos hx, if_pos hy, z_f, if_neg h0, if_pos h12, bq_s, mS_c, mS_l, mS_r, mS_i, mS_j, mS_pi, mS_pj, lt_st, bq_s, bV_s, bI_s, bJ_s, bA_s, nz_0, nc_0, nz_1, nc_1, nz_2, nc_2, nz_3, nc_3, nz_4, nc_4, nz_5, nc_5, nz_6, nc_6, nz_7, nc_7, nz_8, nc_8, nz_9, nc_9, nz_10, nc_10, nz_11, nc_11, nz_12, nc_12, if_true, if_false, eq_self, true_and, and_true, false_or, or_false, true_or, or_true, false_and, and_false, not_true, not_false_eq_true, ne_eq, ite_self, ite_not, ↓reduceIte, n_101, n_107, n_11])
        · have hok : okDb s x y w := ⟨hx, hy, h0, h12⟩
          obtain ⟨q, hq, rfl⟩ := isSh_n hy
          have i0c : (nI (q)).toNatClampNeg = q := nI_clamp (by omega)
          have i0z : (nI (q) < 0) = False := n_ge0 (by omega)
          have i0l : (4 ≤ q) = False := n_lef (by omega)
          obtain ⟨c1, c2⟩ := hC q hq
          simp only [if_pos hx, if_pos hy, z_f, if_neg h0, if_neg h12, lr_0_12, lc_225, ll_225, i0c, i0z, i0l, c1, bq_s, mS_c, mS_l, mS_r, mS_i, mS_j, mS_pi, mS_pj, lt_st, bq_s, bV_s, bI_s, bJ_s, bA_s, nz_0, nc_0, nz_1, nc_1, nz_2, nc_2, nz_3, nc_3, nz_4, nc_4, nz_5, nc_5, nz_6, nc_6, nz_7, nc_7, nz_8, nc_8, nz_9, nc_9, nz_10, nc_10, nz_11, nc_11, nz_12, nc_12, if_true, if_false, eq_self, true_and, and_true, false_or, or_false, true_or, or_true, false_and, and_false, not_true, not_false_eq_true, ne_eq, ite_self, ite_not, ↓reduceIte, n_101, n_107, n_11] at e0
          by_cases h1 : S q = Int32.ofInt (-1)
          · rw [if_pos h1] at e0
            exact nope _ (by unfold v_debts; rw [if_pos hok, i0c, if_pos h1]) e0
          · rw [if_neg h1] at e0
            by_cases h2 : S q = nI 1
            · rw [if_pos h2] at e0
              obtain ⟨c3, c4⟩ := c2 h1
              obtain ⟨p, hp, rfl⟩ := nI_of h0
              rw [n_lt (by decide) hp] at h12
              have e12 := hW.nP.1
              by_cases hp0 : p = 0
              · subst hp0
                refine nope (nI 0) (by unfold v_debts; rw [if_pos hok, i0c, if_neg h1, if_pos h2, if_pos rfl]) ?_
                rw [e0, e_131_35]
                simp only [n_lt (show 0 < 2 ^ 31 by omega) (show 0 < 2 ^ 31 by omega), Nat.lt_irrefl, bq_s, mS_c, mS_l, mS_r, mS_i, mS_j, mS_pi, mS_pj, lt_st, bq_s, bV_s, bI_s, bJ_s, bA_s, nz_0, nc_0, nz_1, nc_1, nz_2, nc_2, nz_3, nc_3, nz_4, nc_4, nz_5, nc_5, nz_6, nc_6, nz_7, nc_7, nz_8, nc_8, nz_9, nc_9, nz_10, nc_10, nz_11, nc_11, nz_12, nc_12, if_true, if_false, eq_self, true_and, and_true, false_or, or_false, true_or, or_true, false_and, and_false, not_true, not_false_eq_true, ne_eq, ite_self, ite_not, ↓reduceIte, n_101, n_107, n_11]
              · have hpn : ¬ nI p = nI 0 := by rw [n_eq hp (by decide)]; exact hp0
                by_cases hz : z < 0
                · refine nope (Int32.ofInt (-12)) (by unfold v_debts; rw [if_pos hok, i0c, if_neg h1, if_pos h2, if_neg hpn, if_pos hz]) ?_
                  rw [e0, e_131_35]
                  simp only [n_lt (show 0 < 2 ^ 31 by omega) hp, eq_true (show 0 < p by omega), if_pos hz, bq_s, mS_c, mS_l, mS_r, mS_i, mS_j, mS_pi, mS_pj, lt_st, bq_s, bV_s, bI_s, bJ_s, bA_s, nz_0, nc_0, nz_1, nc_1, nz_2, nc_2, nz_3, nc_3, nz_4, nc_4, nz_5, nc_5, nz_6, nc_6, nz_7, nc_7, nz_8, nc_8, nz_9, nc_9, nz_10, nc_10, nz_11, nc_11, nz_12, nc_12, if_true, if_false, eq_self, true_and, and_true, false_or, or_false, true_or, or_true, false_and, and_false, not_true, not_false_eq_true, ne_eq, ite_self, ite_not, ↓reduceIte, n_101, n_107, n_11]
                · obtain ⟨i, hi, rfl⟩ := nI_of hz
                  obtain ⟨I', b1, b2, b3⟩ := e131 (d := d) (J := J) (x := x) (i := i) (p := p) (Tq := T q) hq (hw q hq).2 hi (by omega) p 0 0 s I (by omega) (Or.inr rfl) (Nat.le_refl _) c3 c4 hR hW
                  have ev : v_debts s S Z T x (nI q) (nI i) (nI p) = dbU x (T q) (Z q) i p 0 0 s := by
                    unfold v_debts; rw [if_pos hok, i0c, if_neg h1, if_pos h2, if_neg hpn, if_neg hz, nI_clamp hi, nI_clamp hp]
                  rw [ev]
                  exact ⟨I', b1, b2, by rw [e0]; exact b3⟩
            · rw [if_neg h2] at e0
              exact nope _ (by unfold v_debts; rw [if_pos hok, i0c, if_neg h1, if_neg h2]) e0
    · exact nope (Int32.ofInt (-1)) (by unfold v_debts; rw [if_neg (fun h => hy h.2.1)]) (by rw [e0]; simp only [if_pos hx, if_neg hy, z_f, z_t, bq_s, mS_c, mS_l, mS_r, mS_i, mS_j, mS_pi, mS_pj, lt_st, bq_s, bV_s, bI_s, bJ_s, bA_s, nz_0, nc_0, nz_1, nc_1, nz_2, nc_2, nz_3, nc_3, nz_4, nc_4, nz_5, nc_5, nz_6, nc_6, nz_7, nc_7, nz_8, nc_8, nz_9, nc_9, nz_10, nc_10, nz_11, nc_11, nz_12, nc_12, if_true, if_false, eq_self, true_and, and_true, false_or, or_false, true_or, or_true, false_and, and_false, not_true, not_false_eq_true, ne_eq, ite_self, ite_not, ↓reduceIte, n_101, n_107, n_11])
  · exact nope (Int32.ofInt (-1)) (by unfold v_debts; rw [if_neg (fun h => hx h.1)]) (by rw [e0]; simp only [if_neg hx, z_f, z_t, bq_s, mS_c, mS_l, mS_r, mS_i, mS_j, mS_pi, mS_pj, lt_st, bq_s, bV_s, bI_s, bJ_s, bA_s, nz_0, nc_0, nz_1, nc_1, nz_2, nc_2, nz_3, nc_3, nz_4, nc_4, nz_5, nc_5, nz_6, nc_6, nz_7, nc_7, nz_8, nc_8, nz_9, nc_9, nz_10, nc_10, nz_11, nc_11, nz_12, nc_12, if_true, if_false, eq_self, true_and, and_true, false_or, or_false, true_or, or_true, false_and, and_false, not_true, not_false_eq_true, ne_eq, ite_self, ite_not, ↓reduceIte, n_101, n_107, n_11])
/-! the model -/
theorem l_i32 : ∀ m, m < 40 → Int64.toInt32 (lN m) = nI m := by decide +kernel
theorem m151l {a : Nat} (ha : a < 2 ^ 33) (hm : m ≤ 40) : am_cal (d + 1) 151 [.long (lN a), .long (lN 0), .long (Int32.toInt64 (nI m - nI 1))] (mS I J) = some (some (.int (if a < m then nI 1 else nI 0)), mS I J) := by
  rw [c_151]
  simp only [l_lt, l_gt, LN_lt (show a < 2 ^ 63 by omega) (show 0 < 2 ^ 63 by decide), eq_false (Nat.not_lt_zero a), if_false]
  cases m with
  | zero =>
    have h : Int32.toInt64 (nI 0 - nI 1) < lN a := by
      rw [Int64.lt_iff_toInt_lt, LN_i (by omega)]
      have : (Int32.toInt64 (nI 0 - nI 1)).toInt = -1 := by decide
      omega
    rw [if_pos h, if_neg (Nat.not_lt_zero a)]
  | succ m =>
    rw [n_pred, ← lN_w (by omega)]
    simp only [LN_lt (show m < 2 ^ 63 by omega) (show a < 2 ^ 63 by omega)]
    by_cases h : m < a
    · rw [if_pos h, if_neg (by omega)]
    · rw [if_neg h, if_pos (by omega)]
theorem e251 (hq : q < 4) (hZ : m ≤ 40) (hi : i < 2 ^ 31) (hN : p ≤ 12) : ∀ n k c (I : mI), k + n = p → c ≤ k → I 243 q = nI m → (∀ j, j < m → I 244 (40 * q + j) = Tq j) → WF (I 230) →
    am_X (am_cal (d + 3)) 251 28 [.ref 229, .int x, .int (nI q), .int (nI i), .int (nI p), .null, .int (nI c), .int (nI k), .null, .null] [] (mS I J) = some (some (.int (dbU x Tq m i n k c (I 230)).2), mS (wR I (dbU x Tq m i n k c (I 230)).1) J) := by
  have i0c : (nI (q)).toNatClampNeg = q := nI_clamp (by omega)
  have i0z : (nI (q) < 0) = False := n_ge0 (by omega)
  have i0l : (4 ≤ q) = False := n_lef (by omega)
  intro n
  induction n with
  | zero =>
    intro k c I hk hc h1 h2 hW
    have hk' : k = p := by omega
    subst hk'
    rw [e_251_28]
    simp only [n_lt (show k < 2 ^ 31 by omega) (show k < 2 ^ 31 by omega), Nat.lt_irrefl, dbU, wR_I, lc_229, lr_229_0, lc_230, ll_230, bq_s, mS_c, mS_l, mS_r, mS_i, mS_j, mS_pi, mS_pj, lt_st, bq_s, bV_s, bI_s, bJ_s, bA_s, nz_0, nc_0, nz_1, nc_1, nz_2, nc_2, nz_3, nc_3, nz_4, nc_4, nz_5, nc_5, nz_6, nc_6, nz_7, nc_7, nz_8, nc_8, nz_9, nc_9, nz_10, nc_10, nz_11, nc_11, nz_12, nc_12, if_true, if_false, eq_self, true_and, and_true, false_or, or_false, true_or, or_true, false_and, and_false, not_true, not_false_eq_true, ne_eq, ite_self, ite_not, ↓reduceIte]
  | succ n ih =>
    intro k c I hk hc h1 h2 hW
    have xa : Int32.toInt64 (nI i) + Int32.toInt64 (nI k) = lN (i + k) := by rw [← lN_w hi, ← lN_w (by omega), lN_add]
    have ml := fun d => m151l (d := d) (I := I) (J := J) (a := i + k) (m := m) (by omega) hZ
    rw [e_251_28, dbU_s]
    by_cases hh : i + k < m
    · rw [if_pos hh]
      have i1c : (nI (40 * q + (i + k))).toNatClampNeg = 40 * q + (i + k) := nI_clamp (by omega)
      have i1z : (nI (40 * q + (i + k)) < 0) = False := n_ge0 (by omega)
      have i1l : (160 ≤ 40 * q + (i + k)) = False := n_lef (by omega)
      have p0 : nI 40 * nI q = nI (40 * q) := pk_mul _ _
      have hW' : WF (wR I (tr_claim (I 230) (nI 0) x (Tq (i + k))) 230) := by rw [wR_r]; exact W_claim hW
      have f1 : wR I (tr_claim (I 230) (nI 0) x (Tq (i + k))) 243 = I 243 := wR_n (by decide)
      have f2 : wR I (tr_claim (I 230) (nI 0) x (Tq (i + k))) 244 = I 244 := wR_n (by decide)
      by_cases hv : v_claim (I 230) (nI 0) x (Tq (i + k)) < 0
      · have b3 := ih (k + 1) c (wR I (tr_claim (I 230) (nI 0) x (Tq (i + k)))) (by omega) (by omega) (by rw [f1]; exact h1) (fun j hj => by rw [f2]; exact h2 j hj) hW'
        rw [wR_r, wR_wR] at b3
        rw [if_pos hv]
        simp only [n_lt (show k < 2 ^ 31 by omega) (show p < 2 ^ 31 by omega), eq_true (show k < p by omega), lc_229, lr_229_26, lr_229_27, lc_243, ll_243, lc_244, ll_244, i0c, i0z, i0l, i1c, i1z, i1l, h1, xa, ml, if_pos hh, z_f, p0, l_i32 (i + k) (by omega), h2 (i + k) hh, m202 hW, eq_true hv, nI_add, Nat.add_zero, lc_229, lr_229_0, lc_230, ll_230, bq_s, mS_c, mS_l, mS_r, mS_i, mS_j, mS_pi, mS_pj, lt_st, bq_s, bV_s, bI_s, bJ_s, bA_s, nz_0, nc_0, nz_1, nc_1, nz_2, nc_2, nz_3, nc_3, nz_4, nc_4, nz_5, nc_5, nz_6, nc_6, nz_7, nc_7, nz_8, nc_8, nz_9, nc_9, nz_10, nc_10, nz_11, nc_11, nz_12, nc_12, if_true, if_false, eq_self, true_and, and_true, false_or, or_false, true_or, or_true, false_and, and_false, not_true, not_false_eq_true, ne_eq, ite_self, ite_not, ↓reduceIte]
        exact b3
      · have b3 := ih (k + 1) (c + 1) (wR I (tr_claim (I 230) (nI 0) x (Tq (i + k)))) (by omega) (by omega) (by rw [f1]; exact h1) (fun j hj => by rw [f2]; exact h2 j hj) hW'
        rw [wR_r, wR_wR] at b3
        rw [if_neg hv]
        simp only [n_lt (show k < 2 ^ 31 by omega) (show p < 2 ^ 31 by omega), eq_true (show k < p by omega), lc_229, lr_229_26, lr_229_27, lc_243, ll_243, lc_244, ll_244, i0c, i0z, i0l, i1c, i1z, i1l, h1, xa, ml, if_pos hh, z_f, p0, l_i32 (i + k) (by omega), h2 (i + k) hh, m202 hW, eq_false hv, nI_add, lc_229, lr_229_0, lc_230, ll_230, bq_s, mS_c, mS_l, mS_r, mS_i, mS_j, mS_pi, mS_pj, lt_st, bq_s, bV_s, bI_s, bJ_s, bA_s, nz_0, nc_0, nz_1, nc_1, nz_2, nc_2, nz_3, nc_3, nz_4, nc_4, nz_5, nc_5, nz_6, nc_6, nz_7, nc_7, nz_8, nc_8, nz_9, nc_9, nz_10, nc_10, nz_11, nc_11, nz_12, nc_12, if_true, if_false, eq_self, true_and, and_true, false_or, or_false, true_or, or_true, false_and, and_false, not_true, not_false_eq_true, ne_eq, ite_self, ite_not, ↓reduceIte]
        exact b3
    · rw [if_neg hh, wR_I]
      simp only [n_lt (show k < 2 ^ 31 by omega) (show p < 2 ^ 31 by omega), eq_true (show k < p by omega), lc_229, lr_229_26, lc_243, ll_243, i0c, i0z, i0l, h1, xa, ml, if_neg hh, z_t, lc_229, lr_229_0, lc_230, ll_230, bq_s, mS_c, mS_l, mS_r, mS_i, mS_j, mS_pi, mS_pj, lt_st, bq_s, bV_s, bI_s, bJ_s, bA_s, nz_0, nc_0, nz_1, nc_1, nz_2, nc_2, nz_3, nc_3, nz_4, nc_4, nz_5, nc_5, nz_6, nc_6, nz_7, nc_7, nz_8, nc_8, nz_9, nc_9, nz_10, nc_10, nz_11, nc_11, nz_12, nc_12, if_true, if_false, eq_self, true_and, and_true, false_or, or_false, true_or, or_true, false_and, and_false, not_true, not_false_eq_true, ne_eq, ite_self, ite_not, ↓reduceIte]
theorem m251 (hw : wfS S Z) (hM : ShM I S Z T) (hW : WF (I 230)) : am_cal (d + 4) 251 [.ref 229, .int x, .int y, .int z, .int w] (mS I J) = some (some (.int (v_debts (I 230) S Z T x y z w).2), mS (wR I (v_debts (I 230) S Z T x y z w).1) J) := by
  have nope : ∀ r, v_debts (I 230) S Z T x y z w = (I 230, r) → am_cal (d + 4) 251 [.ref 229, .int x, .int y, .int z, .int w] (mS I J) = some (some (.int r), mS I J) → am_cal (d + 4) 251 [.ref 229, .int x, .int y, .int z, .int w] (mS I J) = some (some (.int (v_debts (I 230) S Z T x y z w).2), mS (wR I (v_debts (I 230) S Z T x y z w).1) J) := fun r hr h => by
    rw [hr, wR_I]
    exact h
  have e0 : am_cal (d + 4) 251 [.ref 229, .int x, .int y, .int z, .int w] (mS I J) = _ := c_251 lc_229
  simp only [m153 hW, m245, lc_229, lr_229_0, lc_230, ll_230, bq_s, mS_c, mS_l, mS_r, mS_i, mS_j, mS_pi, mS_pj, lt_st, bq_s, bV_s, bI_s, bJ_s, bA_s, nz_0, nc_0, nz_1, nc_1, nz_2, nc_2, nz_3, nc_3, nz_4, nc_4, nz_5, nc_5, nz_6, nc_6, nz_7, nc_7, nz_8, nc_8, nz_9, nc_9, nz_10, nc_10, nz_11, nc_11, nz_12, nc_12, if_true, if_false, eq_self, true_and, and_true, false_or, or_false, true_or, or_true, false_and, and_false, not_true, not_false_eq_true, ne_eq, ite_self, ite_not, ↓reduceIte] at e0
  by_cases hx : isP (I 230) x
  · by_cases hy : isSh y
    · rw [if_pos hx, if_neg (by decide), if_pos hy, if_neg (by decide), m151 (by decide) (by decide), bI_s] at e0
      by_cases h : ¬ w < nI 0 ∧ ¬ nI 12 < w
      · rw [if_pos h, if_neg (by decide)] at e0
        have h0 : ¬ w < 0 := by rw [n_i0]; exact h.1
        have hok : okDb (I 230) x y w := ⟨hx, hy, h0, h.2⟩
        obtain ⟨q, hq, rfl⟩ := isSh_n hy
        have i0c : (nI (q)).toNatClampNeg = q := nI_clamp (by omega)
        have i0z : (nI (q) < 0) = False := n_ge0 (by omega)
        have i0l : (4 ≤ q) = False := n_lef (by omega)
        obtain ⟨c1, c2⟩ := hM q hq
        rw [m249 hw hM hq, bI_s] at e0
        by_cases h1 : S q = Int32.ofInt (-1)
        · rw [if_pos h1, if_neg (by decide)] at e0
          exact nope _ (by unfold v_debts; rw [if_pos hok, i0c, if_pos h1]) e0
        · rw [if_neg h1] at e0
          by_cases h2 : S q = nI 1
          · rw [if_pos h2, if_pos nI_0] at e0
            obtain ⟨c3, c4⟩ := c2 h1
            obtain ⟨p, hp, rfl⟩ := nI_of h0
            have h12 := h.2
            rw [n_lt (by decide) hp] at h12
            by_cases hp0 : p = 0
            · subst hp0
              refine nope (nI 0) (by unfold v_debts; rw [if_pos hok, i0c, if_neg h1, if_pos h2, if_pos rfl]) ?_
              rw [e0, e_251_28]
              simp only [n_lt (show 0 < 2 ^ 31 by omega) (show 0 < 2 ^ 31 by omega), Nat.lt_irrefl, lc_229, lr_229_0, lc_230, ll_230, bq_s, mS_c, mS_l, mS_r, mS_i, mS_j, mS_pi, mS_pj, lt_st, bq_s, bV_s, bI_s, bJ_s, bA_s, nz_0, nc_0, nz_1, nc_1, nz_2, nc_2, nz_3, nc_3, nz_4, nc_4, nz_5, nc_5, nz_6, nc_6, nz_7, nc_7, nz_8, nc_8, nz_9, nc_9, nz_10, nc_10, nz_11, nc_11, nz_12, nc_12, if_true, if_false, eq_self, true_and, and_true, false_or, or_false, true_or, or_true, false_and, and_false, not_true, not_false_eq_true, ne_eq, ite_self, ite_not, ↓reduceIte]
            · have hpn : ¬ nI p = nI 0 := by rw [n_eq hp (by decide)]; exact hp0
              by_cases hz : z < 0
              · refine nope (Int32.ofInt (-12)) (by unfold v_debts; rw [if_pos hok, i0c, if_neg h1, if_pos h2, if_neg hpn, if_pos hz]) ?_
                have hl : am_cal (d + 3) 151 [.long (Int32.toInt64 z + Int32.toInt64 (nI 0)), .long (lN 0), .long (Int32.toInt64 (nI (Z q) - nI 1))] (mS I J) = some (some (.int (nI 0)), mS I J) := by
                  rw [show Int32.toInt64 z + Int32.toInt64 (nI 0) = Int32.toInt64 z from by rw [show Int32.toInt64 (nI 0) = 0 from by decide]; exact Int64.add_zero _, m151h, if_neg (fun h => h.1 hz)]
                rw [e0, e_251_28]
                simp only [n_lt (show 0 < 2 ^ 31 by omega) hp, eq_true (show 0 < p by omega), lc_229, lr_229_26, lc_243, ll_243, i0c, i0z, i0l, c3, hl, z_t, lc_229, lr_229_0, lc_230, ll_230, bq_s, mS_c, mS_l, mS_r, mS_i, mS_j, mS_pi, mS_pj, lt_st, bq_s, bV_s, bI_s, bJ_s, bA_s, nz_0, nc_0, nz_1, nc_1, nz_2, nc_2, nz_3, nc_3, nz_4, nc_4, nz_5, nc_5, nz_6, nc_6, nz_7, nc_7, nz_8, nc_8, nz_9, nc_9, nz_10, nc_10, nz_11, nc_11, nz_12, nc_12, if_true, if_false, eq_self, true_and, and_true, false_or, or_false, true_or, or_true, false_and, and_false, not_true, not_false_eq_true, ne_eq, ite_self, ite_not, ↓reduceIte]
              · obtain ⟨i, hi, rfl⟩ := nI_of hz
                have b3 := e251 (d := d) (J := J) (x := x) (i := i) (p := p) (Tq := T q) hq (hw q hq).2 hi (by omega) p 0 0 I (by omega) (Nat.le_refl _) c3 c4 hW
                have ev : v_debts (I 230) S Z T x (nI q) (nI i) (nI p) = dbU x (T q) (Z q) i p 0 0 (I 230) := by
                  unfold v_debts; rw [if_pos hok, i0c, if_neg h1, if_pos h2, if_neg hpn, if_neg hz, nI_clamp hi, nI_clamp hp]
                rw [ev, e0]
                exact b3
          · rw [if_neg h2, if_neg (by decide)] at e0
            exact nope _ (by unfold v_debts; rw [if_pos hok, i0c, if_neg h1, if_neg h2]) e0
      · rw [if_neg h, if_pos nI_0] at e0
        exact nope (Int32.ofInt (-1)) (by unfold v_debts; rw [if_neg (fun hh => h (by rw [← n_i0]; exact hh.2.2))]) e0
    · rw [if_pos hx, if_neg (by decide), if_neg hy, if_pos nI_0] at e0
      exact nope (Int32.ofInt (-1)) (by unfold v_debts; rw [if_neg (fun h => hy h.2.1)]) e0
  · rw [if_neg hx, if_pos nI_0] at e0
    exact nope (Int32.ofInt (-1)) (by unfold v_debts; rw [if_neg (fun h => hx h.1)]) e0
end I5s
