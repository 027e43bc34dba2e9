/-! ===== the model: share, total ===== -/
theorem gcd_two {n : Nat} : ∀ a, a % 2 = 1 → Nat.gcd a (2 ^ n) = 1 := by
  intro a ha
  induction n with
  | zero => rw [Nat.pow_zero]; exact Nat.gcd_one_right a
  | succ n ih =>
    have h2 : Nat.Coprime a 2 := by
      show Nat.gcd a 2 = 1
      rw [Nat.gcd_comm, Nat.gcd_rec, ha]
      rfl
    rw [Nat.pow_succ]
    exact Nat.Coprime.mul_right ih h2
theorem lowU_gcd : ∀ n a, lowU n a (2 ^ n) = (a / Nat.gcd a (2 ^ n), 2 ^ n / Nat.gcd a (2 ^ n))
  | 0, a => by
    rw [Nat.pow_zero, Nat.gcd_one_right, Nat.div_one, Nat.div_one]
    rfl
  | n + 1, a => by
    rw [lowU_s]
    by_cases h : a % 2 = 0
    · obtain ⟨b, rfl⟩ : ∃ b, a = 2 * b := ⟨a / 2, by omega⟩
      have e1 : (2 : Nat) ^ (n + 1) = 2 * 2 ^ n := by rw [Nat.pow_succ, Nat.mul_comm]
      rw [if_pos h, e1, Nat.mul_div_cancel_left b (by decide), Nat.mul_div_cancel_left (2 ^ n) (by decide), lowU_gcd n b, Nat.gcd_mul_left, Nat.mul_div_mul_left _ _ (by decide), Nat.mul_div_mul_left _ _ (by decide)]
    · rw [if_neg h, gcd_two a (by omega), Nat.div_one, Nat.div_one]
section D6
variable {I : mI} {J : mJ} {w p q e c d l b g r k : Nat} {s : Rw} {x y z key day : Int32} {h : Nat → Nat}
theorem m157 {a b : Nat} (ha : a < 2 ^ 60) (hb : b < 2 ^ 60) : am_cal (d + 1) 157 [.long (lN a), .long (lN b)] (mS I J) = some (some (.long (lN (Nat.gcd a b))), mS I J) := by
  have lp : ∀ n a b, b ≤ n → a < 2 ^ 60 → b < 2 ^ 60 → am_X (am_cal d) 157 11 [.null, .null, .null, .null, .long (lN a), .null, .long (lN b), .null, .null, .null] [] (mS I J) = some (some (.long (lN (Nat.gcd a b))), mS I J) := by
    intro n
    induction n with
    | zero =>
      intro a b hn ha hb
      have : b = 0 := by omega
      subst this
      rw [e_157_11]
      simp only [l_gt, LN_lt (show 0 < 2 ^ 63 by decide) (show 0 < 2 ^ 63 by decide), Nat.lt_irrefl, Nat.gcd_zero_right, bq_s, mS_c, mS_l, mS_r, mS_i, mS_j, mS_pi, mS_pj, lt_st, bq_s, bV_s, bI_s, bJ_s, bA_s, nz_0, nc_0, nz_1, nc_1, nz_2, nc_2, nz_3, nc_3, nz_4, nc_4, nz_5, nc_5, nz_6, nc_6, nz_7, nc_7, nz_8, nc_8, nz_9, nc_9, nz_10, nc_10, nz_11, nc_11, nz_12, nc_12, if_true, if_false, eq_self, true_and, and_true, false_or, or_false, true_or, or_true, false_and, and_false, not_true, not_false_eq_true, ne_eq, ite_self, ite_not, ↓reduceIte, n_101, n_107, n_11]
    | succ n ih =>
      intro a b hn ha hb
      rw [e_157_11]
      simp only [l_gt, LN_lt (show 0 < 2 ^ 63 by decide) (show b < 2 ^ 63 by omega)]
      by_cases h0 : 0 < b
      · have hz : ¬ lN b = 0 := fun hh => by
          have : lN b = lN 0 := hh
          rw [LN_eq (by omega) (by decide)] at this
          omega
        have em : lN a - lN a / lN b * lN b = lN (a % b) := by
          rw [LN_div (by omega) (by omega) h0, lN_mul, lN_sub (Nat.div_mul_le_self a b)]
          refine congrArg lN ?_
          have := Nat.div_add_mod a b
          rw [Nat.mul_comm] at this
          omega
        have hlt := Nat.mod_lt a h0
        rw [if_pos h0, if_neg hz, em, ih b (a % b) (by omega) hb (by omega)]
        rw [show Nat.gcd a b = Nat.gcd b (a % b) from by rw [Nat.gcd_comm a b, Nat.gcd_rec b a, Nat.gcd_comm]]
      · have : b = 0 := by omega
        subst this
        rw [if_neg h0, Nat.gcd_zero_right]
  rw [c_157]
  simp only [l_lt, LN_lt (show a < 2 ^ 63 by omega) (show 0 < 2 ^ 63 by decide), Nat.not_lt_zero, bq_s, mS_c, mS_l, mS_r, mS_i, mS_j, mS_pi, mS_pj, lt_st, bq_s, bV_s, bI_s, bJ_s, bA_s, nz_0, nc_0, nz_1, nc_1, nz_2, nc_2, nz_3, nc_3, nz_4, nc_4, nz_5, nc_5, nz_6, nc_6, nz_7, nc_7, nz_8, nc_8, nz_9, nc_9, nz_10, nc_10, nz_11, nc_11, nz_12, nc_12, if_true, if_false, eq_self, true_and, and_true, false_or, or_false, true_or, or_true, false_and, and_false, not_true, not_false_eq_true, ne_eq, ite_self, ite_not, ↓reduceIte, n_101, n_107, n_11]
  exact lp b a b (Nat.le_refl _) ha hb
theorem m158 {a : Nat} (ha : a < 2 ^ 45) : am_cal (d + 2) 158 [.long (lN (a * 16384)), .long (lN 68719476736), .int x] (mS I J) = some (some (.long (low a x)), mS I J) := by
  have ew : WH = 2 ^ 22 := rfl
  have e36 : 68719476736 = 2 ^ 22 * 16384 := by decide
  have eg : Nat.gcd (a * 16384) 68719476736 = Nat.gcd a (2 ^ 22) * 16384 := by rw [e36, Nat.gcd_mul_right]
  have hp : 0 < Nat.gcd a (2 ^ 22) := Nat.gcd_pos_of_pos_right _ (by decide)
  have hle : Nat.gcd a (2 ^ 22) ≤ 2 ^ 22 := Nat.gcd_le_right _ (by decide)
  rw [c_158, m157 (by omega) (by decide), bJ_s, eg]
  have hz : ¬ lN (Nat.gcd a (2 ^ 22) * 16384) = 0 := fun hh => by
    have : lN (Nat.gcd a (2 ^ 22) * 16384) = lN 0 := hh
    rw [LN_eq (by omega) (by decide)] at this
    omega
  have d1 : lN (a * 16384) / lN (Nat.gcd a (2 ^ 22) * 16384) = lN (a / Nat.gcd a (2 ^ 22)) := by
    rw [LN_div (by omega) (by omega) (by omega), Nat.mul_div_mul_right _ _ (by decide)]
  have d2 : lN 68719476736 / lN (Nat.gcd a (2 ^ 22) * 16384) = lN (2 ^ 22 / Nat.gcd a (2 ^ 22)) := by
    rw [LN_div (by decide) (by omega) (by omega), e36, Nat.mul_div_mul_right _ _ (by decide)]
  rw [if_neg hz, d1, d2]
  unfold low
  rw [ew, lowU_gcd, n_i0]
  by_cases hx : x = nI 0
  · rw [if_pos hx, if_pos hx]
  · rw [if_neg hx, if_neg hx, if_neg hz]
theorem m206 : ∃ I', F1 238 I' I ∧ (∀ q, q < 12 → I' 238 q = nI 0) ∧ am_cal (d + 1) 206 [.ref 229] (mS I J) = some (none, mS I' J) := by
  have lp : ∀ n k (I1 : mI), k + n = 12 → F1 238 I1 I → (∀ q, q < k → I1 238 q = nI 0) → ∃ I', F1 238 I' I ∧ (∀ q, q < 12 → I' 238 q = nI 0) ∧ am_X (am_cal d) 206 2 [.ref 229, .int (nI k)] [] (mS I1 J) = some (none, mS I' J) := by
    intro n
    induction n with
    | zero =>
      intro k I1 hk h1 hz
      refine ⟨I1, h1, fun q hq => hz q (by omega), ?_⟩
      rw [e_206_2]
      simp only [n_lt (show k < 2 ^ 31 by omega) (show 12 < 2 ^ 31 by decide), n_ltf (show 12 ≤ k by omega), bq_s, mS_c, mS_l, mS_r, mS_i, mS_j, mS_pi, mS_pj, lt_st, bq_s, bV_s, bI_s, bJ_s, bA_s, nz_0, nc_0, nz_1, nc_1, nz_2, nc_2, nz_3, nc_3, nz_4, nc_4, nz_5, nc_5, nz_6, nc_6, nz_7, nc_7, nz_8, nc_8, nz_9, nc_9, nz_10, nc_10, nz_11, nc_11, nz_12, nc_12, if_true, if_false, eq_self, true_and, and_true, false_or, or_false, true_or, or_true, false_and, and_false, not_true, not_false_eq_true, ne_eq, ite_self, ite_not, ↓reduceIte, n_101, n_107, n_11]
    | succ n ih =>
      intro k I1 hk h1 hz
      have i0c : (nI (k)).toNatClampNeg = k := nI_clamp (by omega)
      have i0z : (nI (k) < 0) = False := n_ge0 (by omega)
      have i0l : (12 ≤ k) = False := n_lef (by omega)
      obtain ⟨I', a, b, cc⟩ := ih (k + 1) (wI I1 238 k (nI 0)) (by omega) (fun a ha => by rw [wI_F1 a ha, h1 a ha]) (fun q hq => by
        by_cases e : q = k
        · subst e; exact wI_eq
        · rw [wI_nk e]; exact hz q (by omega))
      refine ⟨I', a, b, ?_⟩
      rw [e_206_2]
      simp only [lr_229_16, lc_238, ll_238, n_lt (show k < 2 ^ 31 by omega) (show 12 < 2 ^ 31 by decide), n_ltt (show k < 12 by omega), i0c, i0z, i0l, nI_add, lc_229, lr_229_0, lc_230, ll_230, bq_s, mS_c, mS_l, mS_r, mS_i, mS_j, mS_pi, mS_pj, lt_st, bq_s, bV_s, bI_s, bJ_s, bA_s, nz_0, nc_0, nz_1, nc_1, nz_2, nc_2, nz_3, nc_3, nz_4, nc_4, nz_5, nc_5, nz_6, nc_6, nz_7, nc_7, nz_8, nc_8, nz_9, nc_9, nz_10, nc_10, nz_11, nc_11, nz_12, nc_12, if_true, if_false, eq_self, true_and, and_true, false_or, or_false, true_or, or_true, false_and, and_false, not_true, not_false_eq_true, ne_eq, ite_self, ite_not, ↓reduceIte]
      exact cc
  obtain ⟨I', a, b, cc⟩ := lp 12 0 I (by omega) (fun _ _ => rfl) (fun q hq => by omega)
  refine ⟨I', a, b, ?_⟩
  rw [c_206 lc_229]
  exact cc
abbrev F3 (I' I : mI) : Prop := ∀ a, a ≠ 236 → a ≠ 237 → a ≠ 238 → I' a = I a
theorem m210 (hW : WF (I 230)) (hc : c < nC (I 230)) : ∃ I' J', F3 I' I ∧ G1 239 J' J ∧ HM J' (shA (I 230) c) ∧ am_cal (d + 8) 210 [.ref 229, .int (nI c)] (mS I J) = some (none, mS I' J') := by
  have h12 := hW.nP.1
  have hc12 := hW.nC.1
  have h18 := hW.nE.1
  obtain ⟨_, _, _, p, e0, hp, he0, e1, e4, hb, h5⟩ := WFcl hW hc
  have a0 : nI 184 + nI 5 * nI c = nI (184 + 5 * c) := by rw [pk_mul, nI_add]
  have a1 : nI (184 + 5 * c) + nI 1 = nI (184 + 5 * c + 1) := nI_add _ _
  have a4 : nI (184 + 5 * c) + nI 4 = nI (184 + 5 * c + 4) := nI_add _ _
  have k1c : (nI (184 + 5 * c + 1)).toNatClampNeg = 184 + 5 * c + 1 := nI_clamp (by omega)
  have k1z : (nI (184 + 5 * c + 1) < 0) = False := n_ge0 (by omega)
  have k1l : (546 ≤ 184 + 5 * c + 1) = False := n_lef (by omega)
  have k4c : (nI (184 + 5 * c + 4)).toNatClampNeg = 184 + 5 * c + 4 := nI_clamp (by omega)
  have k4z : (nI (184 + 5 * c + 4) < 0) = False := n_ge0 (by omega)
  have k4l : (546 ≤ 184 + 5 * c + 4) = False := n_lef (by omega)
  have c1 : I 230 (184 + 5 * c + 1) = nI p := e1
  have c4 : I 230 (184 + 5 * c + 4) = nI e0 := e4
  have l4 : ∀ n k (I1 : mI) (J1 : mJ), k + n = 12 → F3 I1 I → G1 239 J1 J → (∀ x, x < k → J1 239 x = lN (upN (fun _ => 0) p WH x * 16384)) → ∃ J', G1 239 J' J ∧ HM J' (upN (fun _ => 0) p WH) ∧ am_X (am_cal (d + 7)) 210 4 [.ref 229, .int (nI c), .int (nI k)] [] (mS I1 J1) = am_X (am_cal (d + 7)) 210 30 [.ref 229, .int (nI c), .int (nI 0)] [] (mS I1 J') := by
    intro n
    induction n with
    | zero =>
      intro k I1 J1 hk hF h1 hz
      refine ⟨J1, h1, fun x hx => hz x (by omega), ?_⟩
      rw [e_210_4]
      simp only [n_lt (show k < 2 ^ 31 by omega) (show 12 < 2 ^ 31 by decide), n_ltf (show 12 ≤ k by omega), bq_s, mS_c, mS_l, mS_r, mS_i, mS_j, mS_pi, mS_pj, lt_st, bq_s, bV_s, bI_s, bJ_s, bA_s, nz_0, nc_0, nz_1, nc_1, nz_2, nc_2, nz_3, nc_3, nz_4, nc_4, nz_5, nc_5, nz_6, nc_6, nz_7, nc_7, nz_8, nc_8, nz_9, nc_9, nz_10, nc_10, nz_11, nc_11, nz_12, nc_12, if_true, if_false, eq_self, true_and, and_true, false_or, or_false, true_or, or_true, false_and, and_false, not_true, not_false_eq_true, ne_eq, ite_self, ite_not, ↓reduceIte, n_101, n_107, n_11]
    | succ n ih =>
      intro k I1 J1 hk hF h1 hz
      have f0 := hF 230 (by decide) (by decide) (by decide)
      have i0c : (nI (k)).toNatClampNeg = k := nI_clamp (by omega)
      have i0z : (nI (k) < 0) = False := n_ge0 (by omega)
      have i0l : (12 ≤ k) = False := n_lef (by omega)
      have nx : ∀ v : Int64, v = lN (upN (fun _ => 0) p WH k * 16384) → ∃ J', G1 239 J' J ∧ HM J' (upN (fun _ => 0) p WH) ∧ am_X (am_cal (d + 7)) 210 4 [.ref 229, .int (nI c), .int (nI (k + 1))] [] (mS I1 (wJ J1 239 k v)) = am_X (am_cal (d + 7)) 210 30 [.ref 229, .int (nI c), .int (nI 0)] [] (mS I1 J') := fun v hv => ih (k + 1) I1 (wJ J1 239 k v) (by omega) hF (h1.tr wJ_G1) (fun x hx => by
        by_cases e : x = k
        · subst e; rw [wJ_eq, hv]
        · rw [wJ_nk e]; exact hz x (by omega))
      rw [e_210_4]
      simp only [lr_229_17, lc_239, ll_239, f0, a0, a1, k1c, k1z, k1l, c1, n_lt (show k < 2 ^ 31 by omega) (show 12 < 2 ^ 31 by decide), n_ltt (show k < 12 by omega), n_eq (show k < 2 ^ 31 by omega) (show p < 2 ^ 31 by omega), i0c, i0z, i0l, nI_add, lc_229, lr_229_0, lc_230, ll_230, bq_s, mS_c, mS_l, mS_r, mS_i, mS_j, mS_pi, mS_pj, lt_st, bq_s, bV_s, bI_s, bJ_s, bA_s, nz_0, nc_0, nz_1, nc_1, nz_2, nc_2, nz_3, nc_3, nz_4, nc_4, nz_5, nc_5, nz_6, nc_6, nz_7, nc_7, nz_8, nc_8, nz_9, nc_9, nz_10, nc_10, nz_11, nc_11, nz_12, nc_12, if_true, if_false, eq_self, true_and, and_true, false_or, or_false, true_or, or_true, false_and, and_false, not_true, not_false_eq_true, ne_eq, ite_self, ite_not, ↓reduceIte]
      by_cases hkp : k = p
      · rw [if_pos hkp]
        exact nx _ (by rw [hkp, upN_e]; rfl)
      · rw [if_neg hkp]
        exact nx _ (by rw [upN_n hkp, Nat.zero_mul])
  have lA : ∀ n e (I1 : mI) (J1 : mJ), e + n = e0 → F3 I1 I → SP I1 (I 230) e → ∃ I', F3 I' I ∧ SP I' (I 230) e0 ∧ am_X (am_cal (d + 7)) 210 30 [.ref 229, .int (nI c), .int (nI e)] [] (mS I1 J1) = am_X (am_cal (d + 7)) 210 30 [.ref 229, .int (nI c), .int (nI e0)] [] (mS I' J1) := by
    intro n
    induction n with
    | zero =>
      intro e I1 J1 he hF hS
      have : e = e0 := by omega
      subst this
      exact ⟨I1, hF, hS, rfl⟩
    | succ n ih =>
      intro e I1 J1 he hF hS
      have f0 := hF 230 (by decide) (by decide) (by decide)
      obtain ⟨I2, h2, hS2, hr2⟩ := m205 (d := d + 5) (J := J1) (I := I1) (e := e) (by rw [f0]; exact hW) (by rw [f0]; omega) (by rw [f0]; exact hS)
      rw [f0] at hS2
      obtain ⟨I3, h3, hS3, hr3⟩ := ih (e + 1) I2 J1 (by omega) (fun a x1 x2 x3 => by rw [h2 a x3, hF a x1 x2 x3]) hS2
      refine ⟨I3, h3, hS3, ?_⟩
      rw [← hr3, e_210_30]
      simp only [f0, hW.nE.2, a0, a4, k4c, k4z, k4l, c4, n_lt (show e < 2 ^ 31 by omega) (show nE (I 230) < 2 ^ 31 by omega), n_ltt (show e < nE (I 230) by omega), n_lt (show e < 2 ^ 31 by omega) (show e0 < 2 ^ 31 by omega), n_ltt (show e < e0 by omega), n_lef (show 2 < 546 by decide), hr2, nI_add, lc_229, lr_229_0, lc_230, ll_230, bq_s, mS_c, mS_l, mS_r, mS_i, mS_j, mS_pi, mS_pj, lt_st, bq_s, bV_s, bI_s, bJ_s, bA_s, nz_0, nc_0, nz_1, nc_1, nz_2, nc_2, nz_3, nc_3, nz_4, nc_4, nz_5, nc_5, nz_6, nc_6, nz_7, nc_7, nz_8, nc_8, nz_9, nc_9, nz_10, nc_10, nz_11, nc_11, nz_12, nc_12, if_true, if_false, eq_self, true_and, and_true, false_or, or_false, true_or, or_true, false_and, and_false, not_true, not_false_eq_true, ne_eq, ite_self, ite_not, ↓reduceIte]
  have lB : ∀ n e (I1 : mI) (J1 : mJ) (h : Nat → Nat), e + n = nE (I 230) → e0 ≤ e → F3 I1 I → G1 239 J1 J → SP I1 (I 230) e → HM J1 h → shI (I 230) e h → ∃ I' J', F3 I' I ∧ G1 239 J' J ∧ HM J' (shR (I 230) c n e h) ∧ am_X (am_cal (d + 7)) 210 30 [.ref 229, .int (nI c), .int (nI e)] [] (mS I1 J1) = some (none, mS I' J') := by
    intro n
    induction n with
    | zero =>
      intro e I1 J1 h he hee hF hG hS hH hI
      have f0 := hF 230 (by decide) (by decide) (by decide)
      refine ⟨I1, J1, hF, hG, hH, ?_⟩
      rw [e_210_30]
      simp only [f0, hW.nE.2, n_lt (show e < 2 ^ 31 by omega) (show nE (I 230) < 2 ^ 31 by omega), n_ltf (show nE (I 230) ≤ e by omega), n_lef (show 2 < 546 by decide), lc_229, lr_229_0, lc_230, ll_230, bq_s, mS_c, mS_l, mS_r, mS_i, mS_j, mS_pi, mS_pj, lt_st, bq_s, bV_s, bI_s, bJ_s, bA_s, nz_0, nc_0, nz_1, nc_1, nz_2, nc_2, nz_3, nc_3, nz_4, nc_4, nz_5, nc_5, nz_6, nc_6, nz_7, nc_7, nz_8, nc_8, nz_9, nc_9, nz_10, nc_10, nz_11, nc_11, nz_12, nc_12, if_true, if_false, eq_self, true_and, and_true, false_or, or_false, true_or, or_true, false_and, and_false, not_true, not_false_eq_true, ne_eq, ite_self, ite_not, ↓reduceIte]
    | succ n ih =>
      intro e I1 J1 h he hee hF hG hS hH hI
      have f0 := hF 230 (by decide) (by decide) (by decide)
      obtain ⟨I2, J2, h2, g2, hH2, hr2⟩ := m209 (d := d) (J := J1) (I := I1) (e := e) (c := c) (h := h) (by rw [f0]; exact hW) (by rw [f0]; exact hc) (by rw [f0]; omega) (by rw [f0]; exact hS) hH (by rw [f0]; exact hI)
      rw [f0] at hH2
      have f2 := h2 230 (by decide) (by decide)
      have hS2 : SP I2 (I 230) e := by
        intro q hq
        rw [h2 238 (by decide) (by decide)]
        exact hS q hq
      obtain ⟨I3, h3, hS3, hr3⟩ := m205 (d := d + 5) (J := J2) (I := I2) (e := e) (by rw [f2, f0]; exact hW) (by rw [f2, f0]; omega) (by rw [f2, f0]; exact hS2)
      rw [f2, f0] at hS3
      obtain ⟨I4, J4, h4, g4, hH4, hr4⟩ := ih (e + 1) I3 J2 (shE (I 230) c e h) (by omega) (by omega) (fun a x1 x2 x3 => by rw [h3 a x3, h2 a x1 x2, hF a x1 x2 x3]) (hG.tr g2) hS3 hH2 (shI_step hW (by omega) hI)
      refine ⟨I4, J4, h4, g4, hH4, ?_⟩
      rw [← hr4, e_210_30]
      simp only [f0, hW.nE.2, a0, a4, k4c, k4z, k4l, c4, n_lt (show e < 2 ^ 31 by omega) (show nE (I 230) < 2 ^ 31 by omega), n_ltt (show e < nE (I 230) by omega), n_lt (show e < 2 ^ 31 by omega) (show e0 < 2 ^ 31 by omega), n_ltf (show e0 ≤ e by omega), n_lef (show 2 < 546 by decide), hr2, hr3, nI_add, lc_229, lr_229_0, lc_230, ll_230, bq_s, mS_c, mS_l, mS_r, mS_i, mS_j, mS_pi, mS_pj, lt_st, bq_s, bV_s, bI_s, bJ_s, bA_s, nz_0, nc_0, nz_1, nc_1, nz_2, nc_2, nz_3, nc_3, nz_4, nc_4, nz_5, nc_5, nz_6, nc_6, nz_7, nc_7, nz_8, nc_8, nz_9, nc_9, nz_10, nc_10, nz_11, nc_11, nz_12, nc_12, if_true, if_false, eq_self, true_and, and_true, false_or, or_false, true_or, or_true, false_and, and_false, not_true, not_false_eq_true, ne_eq, ite_self, ite_not, ↓reduceIte]
  obtain ⟨I1, a1', z1, r1⟩ := m206 (d := d + 6) (I := I) (J := J)
  have hF1 : F3 I1 I := fun a _ _ x3 => a1' a x3
  obtain ⟨J2, g2, h2, r2⟩ := l4 12 0 I1 J (by omega) hF1 (fun _ _ => rfl) (fun x hx => by omega)
  obtain ⟨I3, f3, s3, r3⟩ := lA e0 0 I1 J2 (by omega) hF1 (fun q hq => ⟨fun ⟨e', hh, _⟩ => by omega, fun _ hh => by omega⟩)
  obtain ⟨I4, J4, f4, g4, h4, r4⟩ := lB (nE (I 230) - e0) e0 I3 J2 (upN (fun _ => 0) p WH) (by omega) (Nat.le_refl _) f3 g2 s3 h2 (shI_0 hW hp hb h5)
  refine ⟨I4, J4, f4, g4, ?_, ?_⟩
  · unfold shA
    rw [e1, e4, nI_clamp (by omega), nI_clamp (by omega)]
    exact h4
  · rw [c_210 lc_229, r1, bV_s, r2, r3, r4]
abbrev GM (J' J : mJ) : Prop := ∀ a, a ≠ 239 → J' a = J a
theorem FM.f3 {I I1 : mI} (h : F3 I1 I) : FM I1 I := ⟨fun a _ x2 x3 x4 _ => h a x2 x3 x4, fun k _ => by rw [h 229 (by decide) (by decide) (by decide)]⟩
theorem m211 (hW : WF (I 230)) : ∃ I' J', FM I' I ∧ GM J' J ∧ am_cal (d + 9) 211 [.ref 229, .int x, .int y, .int z] (mS I J) = some (some (.long (v_share (I 230) x y z)), mS I' J') := by
  have h12 := hW.nP.1
  have hc12 := hW.nC.1
  rw [c_211 lc_229, m153 hW, bI_s]
  unfold v_share
  by_cases hx : isP (I 230) x
  · rw [if_pos hx, if_neg (by decide), m203 hW, bI_s]
    by_cases hy : isCl (I 230) y
    · rw [if_pos hy, if_neg (by decide), m151 (by decide) (by decide), bI_s]
      by_cases hz : ¬ z < nI 0 ∧ ¬ nI 1 < z
      · rw [if_pos hz, if_neg (by decide)]
        rw [i2_in] at hz
        obtain ⟨p, hp, rfl⟩ := isP_n hW hx
        obtain ⟨c, hc, rfl⟩ := isCl_n hW hy
        have i0c : (nI (p)).toNatClampNeg = p := nI_clamp (by omega)
        have i0z : (nI (p) < 0) = False := n_ge0 (by omega)
        have i0l : (12 ≤ p) = False := n_lef (by omega)
        obtain ⟨I', J', a, b, cc, hr⟩ := m210 (d := d) (J := J) hW hc
        have hs := shA_le hW hc p
        have ew : WH = 4194304 := rfl
        refine ⟨I', J', FM.f3 a, b, ?_⟩
        rw [if_pos hx, if_pos hy, if_pos hz]
        simp only [hr, lr_229_17, lc_239, ll_239, i0c, i0z, i0l, cc p (show p < 12 by omega), m158 (show shA (I 230) c p < 2 ^ 45 by omega), nI_clamp (show c < 2 ^ 31 by omega), lc_229, lr_229_0, lc_230, ll_230, bq_s, mS_c, mS_l, mS_r, mS_i, mS_j, mS_pi, mS_pj, lt_st, bq_s, bV_s, bI_s, bJ_s, bA_s, nz_0, nc_0, nz_1, nc_1, nz_2, nc_2, nz_3, nc_3, nz_4, nc_4, nz_5, nc_5, nz_6, nc_6, nz_7, nc_7, nz_8, nc_8, nz_9, nc_9, nz_10, nc_10, nz_11, nc_11, nz_12, nc_12, if_true, if_false, eq_self, true_and, and_true, false_or, or_false, true_or, or_true, false_and, and_false, not_true, not_false_eq_true, ne_eq, ite_self, ite_not, ↓reduceIte]
      · have hz2 : ¬ i2 z := fun h => hz (by rw [i2_in]; exact h)
        exact ⟨I, J, FM.rf, fun _ _ => rfl, by rw [if_neg hz, if_pos nI_0, if_pos hx, if_pos hy, if_neg hz2]⟩
    · exact ⟨I, J, FM.rf, fun _ _ => rfl, by rw [if_neg hy, if_pos nI_0, if_pos hx, if_neg hy]⟩
  · exact ⟨I, J, FM.rf, fun _ _ => rfl, by rw [if_neg hx, if_pos nI_0, if_neg hx]⟩
theorem m212 {sort : Int32} (hW : WF (I 230)) (hp : p < 12) : ∃ I' J', F3 I' I ∧ GM J' J ∧ am_cal (d + 9) 212 [.ref 229, .int (nI p), .int sort] (mS I J) = some (some (.long (lN (sumU (I 230) p sort (nC (I 230)) * 16384))), mS I' J') := by
  have hc12 := hW.nC.1
  have j0c : (nI (p)).toNatClampNeg = p := nI_clamp (by omega)
  have j0z : (nI (p) < 0) = False := n_ge0 (by omega)
  have j0l : (12 ≤ p) = False := n_lef (by omega)
  have lp : ∀ n c (I1 : mI) (J1 : mJ), c + n = nC (I 230) → F3 I1 I → GM J1 J → ∃ I' J', F3 I' I ∧ GM J' J ∧ am_X (am_cal (d + 8)) 212 4 [.ref 229, .int (nI p), .int sort, .long (lN (sumU (I 230) p sort c * 16384)), .null, .int (nI c)] [] (mS I1 J1) = some (some (.long (lN (sumU (I 230) p sort (nC (I 230)) * 16384))), mS I' J') := by
    intro n
    induction n with
    | zero =>
      intro c I1 J1 hc h1 h2
      have f0 := h1 230 (by decide) (by decide) (by decide)
      refine ⟨I1, J1, h1, h2, ?_⟩
      rw [e_212_4]
      simp only [f0, hW.nC.2, n_lt (show c < 2 ^ 31 by omega) (show nC (I 230) < 2 ^ 31 by omega), n_ltf (show nC (I 230) ≤ c by omega), n_lef (show 3 < 546 by decide), lc_229, lr_229_0, lc_230, ll_230, bq_s, mS_c, mS_l, mS_r, mS_i, mS_j, mS_pi, mS_pj, lt_st, bq_s, bV_s, bI_s, bJ_s, bA_s, nz_0, nc_0, nz_1, nc_1, nz_2, nc_2, nz_3, nc_3, nz_4, nc_4, nz_5, nc_5, nz_6, nc_6, nz_7, nc_7, nz_8, nc_8, nz_9, nc_9, nz_10, nc_10, nz_11, nc_11, nz_12, nc_12, if_true, if_false, eq_self, true_and, and_true, false_or, or_false, true_or, or_true, false_and, and_false, not_true, not_false_eq_true, ne_eq, ite_self, ite_not, ↓reduceIte]
      rw [show c = nC (I 230) by omega]
    | succ n ih =>
      intro c I1 J1 hc h1 h2
      have hcn : c < nC (I 230) := by omega
      have f0 := h1 230 (by decide) (by decide) (by decide)
      have a0 : nI 184 + nI 5 * nI c = nI (184 + 5 * c) := by rw [pk_mul, nI_add]
      have a2 : nI (184 + 5 * c) + nI 2 = nI (184 + 5 * c + 2) := nI_add _ _
      have k0c : (nI (184 + 5 * c)).toNatClampNeg = 184 + 5 * c := nI_clamp (by omega)
      have k0z : (nI (184 + 5 * c) < 0) = False := n_ge0 (by omega)
      have k0l : (546 ≤ 184 + 5 * c) = False := n_lef (by omega)
      have k2c : (nI (184 + 5 * c + 2)).toNatClampNeg = 184 + 5 * c + 2 := nI_clamp (by omega)
      have k2z : (nI (184 + 5 * c + 2) < 0) = False := n_ge0 (by omega)
      have k2l : (546 ≤ 184 + 5 * c + 2) = False := n_lef (by omega)
      obtain ⟨I2, J2, a, b, cc, hr⟩ := m210 (d := d) (J := J1) (I := I1) (c := c) (by rw [f0]; exact hW) (by rw [f0]; exact hcn)
      rw [f0] at cc
      have f2 := a 230 (by decide) (by decide) (by decide)
      obtain ⟨_, ⟨v, _, hv, e2⟩, _⟩ := WFcl hW hcn
      have e2' : I 230 (184 + 5 * c + 2) = nI v := e2
      have e0' : I 230 (184 + 5 * c) = cF (I 230) c 0 := rfl
      have ev : (nI v).toInt64 = lN v := nI_l (by omega)
      have em : sumU (I 230) p sort c * 16384 + v * (shA (I 230) c p * 16384) = (sumU (I 230) p sort c + v * shA (I 230) c p) * 16384 := by rw [Nat.add_mul, Nat.mul_assoc]
      rw [e_212_4]
      simp only [lr_229_17, lc_239, ll_239, f2, f0, a0, a2, k0c, k0z, k0l, k2c, k2z, k2l, e0', e2', hW.nC.2, n_lt (show c < 2 ^ 31 by omega) (show nC (I 230) < 2 ^ 31 by omega), n_ltt hcn, n_lef (show 3 < 546 by decide), hr, j0c, j0z, j0l, cc p hp, ev, lN_mul, lN_add, em, nI_add, lc_229, lr_229_0, lc_230, ll_230, bq_s, mS_c, mS_l, mS_r, mS_i, mS_j, mS_pi, mS_pj, lt_st, bq_s, bV_s, bI_s, bJ_s, bA_s, nz_0, nc_0, nz_1, nc_1, nz_2, nc_2, nz_3, nc_3, nz_4, nc_4, nz_5, nc_5, nz_6, nc_6, nz_7, nc_7, nz_8, nc_8, nz_9, nc_9, nz_10, nc_10, nz_11, nc_11, nz_12, nc_12, if_true, if_false, eq_self, true_and, and_true, false_or, or_false, true_or, or_true, false_and, and_false, not_true, not_false_eq_true, ne_eq, ite_self, ite_not, ↓reduceIte]
      by_cases hs : cF (I 230) c 0 = sort
      · have := ih (c + 1) I2 J2 (by omega) (fun x x1 x2 x3 => by rw [a x x1 x2 x3, h1 x x1 x2 x3]) (fun x hx => by rw [b x hx, h2 x hx])
        rw [sumU_s, if_pos hs, e2, nI_clamp (by omega)] at this
        rw [if_pos hs]
        exact this
      · have := ih (c + 1) I1 J1 (by omega) h1 h2
        rw [sumU_s, if_neg hs, Nat.add_zero] at this
        rw [if_neg hs]
        exact this
  obtain ⟨I', J', a, b, cc⟩ := lp (nC (I 230)) 0 I J (by omega) (fun _ _ _ _ => rfl) (fun _ _ => rfl)
  refine ⟨I', J', a, b, ?_⟩
  rw [c_212 lc_229]
  have : sumU (I 230) p sort 0 * 16384 = 0 := Nat.zero_mul _
  rw [this] at cc
  exact cc
theorem sum_b (hW : WF s) {sort : Int32} : sumU s p sort (nC s) < 2 ^ 45 := by
  have hs := sumU_le hW (p := p) (sort := sort) (nC s) (Nat.le_refl _)
  have hc12 := hW.nC.1
  have ew : WH = 4194304 := rfl
  have hm : nC s * (9999 * WH) ≤ 12 * (9999 * WH) := Nat.mul_le_mul_right _ hc12
  rw [ew] at hs hm
  omega
theorem m213 (hW : WF (I 230)) : ∃ I' J', FM I' I ∧ GM J' J ∧ am_cal (d + 10) 213 [.ref 229, .int x, .int y, .int z] (mS I J) = some (some (.long (v_total (I 230) x y z)), mS I' J') := by
  have h12 := hW.nP.1
  rw [c_213 lc_229, m153 hW, bI_s]
  unfold v_total
  by_cases hx : isP (I 230) x
  · rw [if_pos hx, if_neg (by decide), m151 (by decide) (by decide), bI_s]
    by_cases hy : ¬ y < nI 0 ∧ ¬ nI 1 < y
    · rw [if_pos hy, if_neg (by decide), m151 (by decide) (by decide), bI_s]
      by_cases hz : ¬ z < nI 0 ∧ ¬ nI 1 < z
      · rw [if_pos hz, if_neg (by decide)]
        rw [i2_in] at hy hz
        obtain ⟨p, hp, rfl⟩ := isP_n hW hx
        obtain ⟨I', J', a, b, hr⟩ := m212 (d := d) (J := J) (I := I) (sort := y) (p := p) hW (by omega)
        refine ⟨I', J', FM.f3 a, b, ?_⟩
        rw [if_pos hx, if_pos hy, if_pos hz, hr, bJ_s, m158 (sum_b hW), bJ_s, nI_clamp (by omega)]
      · have hz2 : ¬ i2 z := fun h => hz (by rw [i2_in]; exact h)
        rw [i2_in] at hy
        exact ⟨I, J, FM.rf, fun _ _ => rfl, by rw [if_neg hz, if_pos nI_0, if_pos hx, if_pos hy, if_neg hz2]⟩
    · have hy2 : ¬ i2 y := fun h => hy (by rw [i2_in]; exact h)
      exact ⟨I, J, FM.rf, fun _ _ => rfl, by rw [if_neg hy, if_pos nI_0, if_pos hx, if_neg hy2]⟩
  · exact ⟨I, J, FM.rf, fun _ _ => rfl, by rw [if_neg hx, if_pos nI_0, if_neg hx]⟩
end D6
