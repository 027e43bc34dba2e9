/-! ===== pays: the class ===== -/
section I13s
variable {I I' : mI} {J : mJ} {s t : Rw} {d k n q p i c m b l : Nat} {a x y z u v w : Int32}
abbrev FQ (I' I : mI) : Prop := ∀ a, (a < 127 ∨ 190 ≤ a) → I' a = I a
theorem LN_w {n : Nat} (h : n < 2 ^ 31) : Int32.toInt64 (nI n) = lN n := nI_l h
theorem e117 (hW : WF s) (hp : p < nP s) (ha : isAw s p) : ∀ n k b l (I1 : mI) (J1 : mJ), k + n = 4 + nP s → 1 ≤ k → b < 2 ^ 31 → l < 2 ^ 60 → Rep I1 1 s → ∃ I' J', FQ I' I1 ∧ G1 193 J' J1 ∧ am_X (am_cal (d + 7)) 117 31 [.ref 0, .int (nI p), .int y, .int (nI b), .long (lN l), .null, .int (nI k), .null, .null, .null] [] (mS I1 J1) = some (some (.long (if y = 0 then lN (payU s p n k b l).1 else lN (payU s p n k b l).2)), mS I' J') := by
  have h12 := hW.nP.1
  have ew : WH = 4194304 := rfl
  have w4 : (lN 4194304 = 0) = False := eq_false (by decide)
  intro n
  induction n with
  | zero =>
    intro k b l I1 J1 hk hk1 hb hl hR
    have h9 : I1 1 9 = nI (nP s) := hR.ppl.trans hW.nP.2
    refine ⟨I1, J1, fun _ _ => rfl, fun _ _ => rfl, ?_⟩
    rw [e_117_31]
    simp only [lc_0, lr_0_0, w_C W1, h9, nI_add, n_lt (show k < 2 ^ 31 by omega) (show 4 + nP s < 2 ^ 31 by omega), eq_false (show ¬ k < 4 + nP s by omega), LN_w hb, rj_ite, payU, bq_s, mS_c, mS_l, mS_r, mS_i, mS_j, mS_pi, mS_pj, lt_st, bq_s, bV_s, bI_s, bJ_s, bA_s, nz_0, nc_0, nz_1, nc_1, nz_2, nc_2, nz_3, nc_3, nz_4, nc_4, nz_5, nc_5, nz_6, nc_6, nz_7, nc_7, nz_8, nc_8, nz_9, nc_9, nz_10, nc_10, nz_11, nc_11, nz_12, nc_12, if_true, if_false, eq_self, true_and, and_true, false_or, or_false, true_or, or_true, false_and, and_false, not_true, not_false_eq_true, ne_eq, ite_self, ite_not, ↓reduceIte, n_101, n_107, n_11]
  | succ n ih =>
    intro k b l I1 J1 hk hk1 hb hl hR
    have h9 : I1 1 9 = nI (nP s) := hR.ppl.trans hW.nP.2
    have e0 : am_X (am_cal (d + 7)) 117 31 [.ref 0, .int (nI p), .int y, .int (nI b), .long (lN l), .null, .int (nI k), .null, .null, .null] [] (mS I1 J1) = _ := e_117_31
    simp only [lc_0, lr_0_0, w_C W1, h9, nI_add, n_lt (show k < 2 ^ 31 by omega) (show 4 + nP s < 2 ^ 31 by omega), eq_true (show k < 4 + nP s by omega), l_gt, LN_lt (show 0 < 2 ^ 63 by decide) (show l < 2 ^ 63 by omega), LN_w hb, rj_ite, bq_s, mS_c, mS_l, mS_r, mS_i, mS_j, mS_pi, mS_pj, lt_st, bq_s, bV_s, bI_s, bJ_s, bA_s, nz_0, nc_0, nz_1, nc_1, nz_2, nc_2, nz_3, nc_3, nz_4, nc_4, nz_5, nc_5, nz_6, nc_6, nz_7, nc_7, nz_8, nc_8, nz_9, nc_9, nz_10, nc_10, nz_11, nc_11, nz_12, nc_12, if_true, if_false, eq_self, true_and, and_true, false_or, or_false, true_or, or_true, false_and, and_false, not_true, not_false_eq_true, ne_eq, ite_self, ite_not, ↓reduceIte, n_101, n_107, n_11] at e0
    by_cases hl0 : 0 < l
    · rw [if_pos hl0] at e0
      obtain ⟨I2, v, b1, b2, b3⟩ := k118 (d := d) (J := J1) hR hW hp ha hk1 (show k < 4 + nP s by omega)
      have hR2 : Rep I2 1 s := hR.fr hW fun a h1 h2 h3 => b1 a (by omega)
      rw [b3, bI_s] at e0
      rcases b2 with ⟨ho, hv, hR'⟩ | ⟨ho, hv⟩
      · have hWp := pay_W hW hp ha (show k < 4 + nP s by omega) ho
        have hq := pay_q hW hp ho
        obtain ⟨I3, J3, c1, c2, c3⟩ := k35 (d := d) (J := J1) (sort := nI 0) (Or.inr ⟨rfl, rfl⟩ : isG 192 127) hR' hWp hq
        have hR3 : Rep I3 1 s := hR2.fr hW fun a h1 h2 h3 => c1 a (by omega)
        have hb := sum_b hWp (p := payQ s p k) (sort := nI 0)
        have hdiv : lN (sumU (payS s p k) (payQ s p k) (nI 0) (nC (payS s p k))) / lN 4194304 = lN (payV s p k) := LN_div (by omega) (by decide) (by decide)
        have hV : payV s p k < 2 ^ 60 := Nat.lt_of_le_of_lt (Nat.div_le_self _ _) (by omega)
        rw [hv] at e0
        rw [if_neg (nI_pos (show payQ s p k < 2 ^ 31 by omega))] at e0
        simp only [lc_0, lr_0_4, c3, hdiv, w4, l_lt, LN_lt (show payV s p k < 2 ^ 63 by omega) (show l < 2 ^ 63 by omega), bq_s, mS_c, mS_l, mS_r, mS_i, mS_j, mS_pi, mS_pj, lt_st, bq_s, bV_s, bI_s, bJ_s, bA_s, nz_0, nc_0, nz_1, nc_1, nz_2, nc_2, nz_3, nc_3, nz_4, nc_4, nz_5, nc_5, nz_6, nc_6, nz_7, nc_7, nz_8, nc_8, nz_9, nc_9, nz_10, nc_10, nz_11, nc_11, nz_12, nc_12, if_true, if_false, eq_self, true_and, and_true, false_or, or_false, true_or, or_true, false_and, and_false, not_true, not_false_eq_true, ne_eq, ite_self, ite_not, ↓reduceIte, n_101, n_107, n_11] at e0
        by_cases hlt : payV s p k < l
        · rw [if_pos hlt] at e0
          obtain ⟨I4, J4, d1, d2, d3⟩ := ih (k + 1) k (payV s p k) I3 J3 (by omega) (by omega) (by omega) hV hR3
          refine ⟨I4, J4, fun a h => by rw [d1 a h, c1 a (by omega), b1 a (by omega)], fun a h => by rw [d2 a h, c2 a h], ?_⟩
          rw [e0, d3, payU_t ⟨ho, hlt⟩]
        · rw [if_neg hlt] at e0
          obtain ⟨I4, J4, d1, d2, d3⟩ := ih (k + 1) b l I3 J3 (by omega) (by omega) (by omega) hl hR3
          refine ⟨I4, J4, fun a h => by rw [d1 a h, c1 a (by omega), b1 a (by omega)], fun a h => by rw [d2 a h, c2 a h], ?_⟩
          rw [e0, d3, payU_f (fun h => hlt h.2)]
      · obtain ⟨I4, J4, d1, d2, d3⟩ := ih (k + 1) b l I2 J1 (by omega) (by omega) hb hl hR2
        have hll : ¬ (lg_cmp (lN l) (lN l) < 0) := by rw [l_lt]; exact Int64.lt_irrefl
        rw [if_pos hv, if_neg hll] at e0
        refine ⟨I4, J4, fun a h => by rw [d1 a h, b1 a (by omega)], d2, ?_⟩
        rw [e0, d3, payU_f (fun h => ho h.1)]
    · have hl' : l = 0 := by omega
      subst hl'
      rw [if_neg hl0] at e0
      refine ⟨I1, J1, fun _ _ => rfl, fun _ _ => rfl, ?_⟩
      rw [e0, payU_0]
abbrev FY (I' I : mI) : Prop := ∀ a, (a < 127 ∨ 190 ≤ a) → a ≠ 13 → I' a = I a
theorem k117 (hR : Rep I 1 s) (hW : WF s) : ∃ I' J', FY I' I ∧ GC J' J ∧ am_cal (d + 8) 117 [.ref 0, .int x, .int y] (mS I J) = some (some (.long (v_pays s x y)), mS I' J') := by
  have h12 := hW.nP.1
  have w4 : (lN 4194304 = 0) = False := eq_false (by decide)
  have e0 : am_cal (d + 8) 117 [.ref 0, .int x, .int y] (mS I J) = _ := c_117 lc_0
  simp only [lc_0, lr_0_0, k65 W1 hR, bq_s, mS_c, mS_l, mS_r, mS_i, mS_j, mS_pi, mS_pj, lt_st, bq_s, bV_s, bI_s, bJ_s, bA_s, nz_0, nc_0, nz_1, nc_1, nz_2, nc_2, nz_3, nc_3, nz_4, nc_4, nz_5, nc_5, nz_6, nc_6, nz_7, nc_7, nz_8, nc_8, nz_9, nc_9, nz_10, nc_10, nz_11, nc_11, nz_12, nc_12, if_true, if_false, eq_self, true_and, and_true, false_or, or_false, true_or, or_true, false_and, and_false, not_true, not_false_eq_true, ne_eq, ite_self, ite_not, ↓reduceIte, n_101, n_107, n_11] at e0
  unfold v_pays
  by_cases hx : isP s x
  · rw [if_pos hx, if_neg (by decide)] at e0
    by_cases h0 : y < 0
    · rw [if_pos h0] at e0
      rw [if_neg (fun h => h.2.1 h0)]
      exact ⟨I, J, fun _ _ _ => rfl, fun _ _ _ => rfl, e0⟩
    · rw [if_neg h0] at e0
      by_cases h1 : nI 1 < y
      · rw [if_pos h1] at e0
        rw [if_neg (fun h => h.2.2 h1)]
        exact ⟨I, J, fun _ _ _ => rfl, fun _ _ _ => rfl, e0⟩
      · rw [if_neg h1] at e0
        rw [if_pos ⟨hx, h0, h1⟩]
        obtain ⟨p, hp, rfl⟩ := isP_n hW hx
        have pc : (nI p).toNatClampNeg = p := nI_clamp (by omega)
        rw [k68 W1 hR hW hp, bI_s] at e0
        by_cases ha : isAw s p
        · rw [if_pos ha, if_neg (by decide)] at e0
          rw [pc, if_pos ha]
          obtain ⟨I1, J1, c1, c2, c3⟩ := k35 (d := d) (J := J) (sort := nI 0) (Or.inl ⟨rfl, rfl⟩ : isG 190 1) hR hW (show p < 12 by omega)
          have hR1 : Rep I1 1 s := hR.fr hW fun a h1 h2 h3 => c1 a (by omega)
          have hb := sum_b hW (p := p) (sort := nI 0)
          have hdiv : lN (sumU s p (nI 0) (nC s)) / lN 4194304 = lN (payV s p 0) := LN_div (by omega) (by decide) (by decide)
          have hV : payV s p 0 < 2 ^ 60 := Nat.lt_of_le_of_lt (Nat.div_le_self _ _) (by show sumU s p (nI 0) (nC s) < _; omega)
          simp only [lc_0, lr_0_3, c3, hdiv, w4, bq_s, mS_c, mS_l, mS_r, mS_i, mS_j, mS_pi, mS_pj, lt_st, bq_s, bV_s, bI_s, bJ_s, bA_s, nz_0, nc_0, nz_1, nc_1, nz_2, nc_2, nz_3, nc_3, nz_4, nc_4, nz_5, nc_5, nz_6, nc_6, nz_7, nc_7, nz_8, nc_8, nz_9, nc_9, nz_10, nc_10, nz_11, nc_11, nz_12, nc_12, if_true, if_false, eq_self, true_and, and_true, false_or, or_false, true_or, or_true, false_and, and_false, not_true, not_false_eq_true, ne_eq, ite_self, ite_not, ↓reduceIte, n_101, n_107, n_11] at e0
          obtain ⟨I2, J2, d1, d2, d3⟩ := e117 (d := d) (y := y) hW hp ha (3 + nP s) 1 0 (payV s p 0) I1 J1 (by omega) (by omega) (by decide) hV hR1
          exact ⟨I2, J2, fun a h g => by rw [d1 a h, c1 a g], fun a g h => by rw [d2 a h, c2 a g], e0.trans d3⟩
        · rw [if_neg ha, if_pos nI_0] at e0
          rw [pc, if_neg ha]
          exact ⟨I, J, fun _ _ _ => rfl, fun _ _ _ => rfl, e0⟩
  · rw [if_neg hx, if_pos nI_0] at e0
    rw [if_neg (fun h => hx h.1)]
    exact ⟨I, J, fun _ _ _ => rfl, fun _ _ _ => rfl, e0⟩
end I13s
