/-! ===== longs; the class follows a claim ===== -/
theorem LN_i {n : Nat} (h : n < 2 ^ 63) : (lN n).toInt = (n : Int) := lg_ofNat_toInt h
theorem LN_lt {a b : Nat} (ha : a < 2 ^ 63) (hb : b < 2 ^ 63) : (lN a < lN b) = (a < b) := by
  rw [Int64.lt_iff_toInt_lt, LN_i ha, LN_i hb]
  exact propext ⟨fun h => by omega, fun h => by omega⟩
theorem LN_eq {a b : Nat} (ha : a < 2 ^ 63) (hb : b < 2 ^ 63) : (lN a = lN b) = (a = b) := by
  rw [← Int64.toInt_inj, LN_i ha, LN_i hb]
  exact propext ⟨fun h => by omega, fun h => by omega⟩
theorem LN_div {a b : Nat} (ha : a < 2 ^ 63) (hb : b < 2 ^ 63) (h0 : 0 < b) : lN a / lN b = lN (a / b) := by
  apply Int64.toInt_inj.mp
  have hd : a / b < 2 ^ 63 := Nat.lt_of_le_of_lt (Nat.div_le_self _ _) ha
  have hle : a / b ≤ a := Nat.div_le_self _ _
  rw [Int64.toInt_div, LN_i ha, LN_i hb, LN_i hd]
  have e : (a : Int).tdiv (b : Int) = ((a / b : Nat) : Int) := by rw [Int.ofNat_tdiv]
  rw [e]
  generalize a / b = z at hd
  exact Jvm.Kit.bmod64 (by omega) (by omega)
section D2
variable {I : mI} {J : mJ} {w p q e c d l b g r k : Nat} {s : Rw} {x y key day : Int32} {h : Nat → Nat}
abbrev G1 (b : Nat) (J' J : mJ) : Prop := ∀ a, a ≠ b → J' a = J a
theorem wJ_G1 {J : mJ} {a k : Nat} {v : Int64} : G1 a (wJ J a k v) J := fun b hb => funext fun _ => wJ_ne hb
theorem G1.tr {b : Nat} {J J1 J2 : mJ} (h1 : G1 b J1 J) (h2 : G1 b J2 J1) : G1 b J2 J := fun a ha => by rw [h2 a ha, h1 a ha]
/-- the class's row of shares, the model's -/
def HC (J : mJ) (b : Nat) (h : Nat → Nat) : Prop := ∀ x, x < 12 → J b x = lN (h x)
theorem HC.up (hh : HC J b h) {v : Nat} : HC (wJ J b p (lN v)) b (upN h p v) := fun x hx => by
  by_cases e : x = p
  · subst e; rw [wJ_eq, upN_e]
  · rw [wJ_nk e, upN_n e]; exact hh x hx
/-- what one has goes to another -/
theorem k38 (hg : isG g w) (hh : HC J (g + 1) h) (hb : ∀ x, h x ≤ WH) (hp : p < 12) (hq : q < 12) (hpq : p ≠ q) : ∃ J', G1 (g + 1) J' J ∧ HC J' (g + 1) (upN (upN h q (min WH (h q + h p))) p 0) ∧ am_cal (d + 1) 38 [.ref g, .int (nI p), .int (nI q)] (mS I J) = some (none, mS I J') := by
  have i0c : (nI (p)).toNatClampNeg = p := nI_clamp (by omega)
  have i0z : (nI (p) < 0) = False := n_ge0 (by omega)
  have i0l : (12 ≤ p) = False := n_lef (by omega)
  have i1c : (nI (q)).toNatClampNeg = q := nI_clamp (by omega)
  have i1z : (nI (q) < 0) = False := n_ge0 (by omega)
  have i1l : (12 ≤ q) = False := n_lef (by omega)
  have b1 := hb p
  have b2' := hb q
  have ew : WH = 4194304 := rfl
  have em : (if lN (h q) + lN (h p) < lN 4194304 then lN (h q) + lN (h p) else lN 4194304) = lN (min WH (h q + h p)) := by
    rw [lN_add]
    simp only [LN_lt (show h q + h p < 2 ^ 63 by omega) (show 4194304 < 2 ^ 63 by decide)]
    by_cases hl : h q + h p < 4194304
    · rw [if_pos hl, Nat.min_eq_right (by omega)]
    · rw [if_neg hl, Nat.min_eq_left (by omega)]
      rfl
  refine ⟨_, wJ_G1.tr wJ_G1, (HC.up (HC.up hh (p := q) (v := min WH (h q + h p))) (p := p) (v := 0)), ?_⟩
  rw [c_38 (g_C hg)]
  simp only [g_C hg, g_R1 hg, g_C1 hg, g_L1 hg, i0c, i0z, i0l, i1c, i1z, i1l, hh p hp, hh q hq, em, show (2 ≤ 8) = True from eq_true (by decide), bq_s, mS_c, mS_l, mS_r, mS_i, mS_j, mS_pi, mS_pj, lt_st, bq_s, bV_s, bI_s, bJ_s, bA_s, nz_0, nc_0, nz_1, nc_1, nz_2, nc_2, nz_3, nc_3, nz_4, nc_4, nz_5, nc_5, nz_6, nc_6, nz_7, nc_7, nz_8, nc_8, nz_9, nc_9, nz_10, nc_10, nz_11, nc_11, nz_12, nc_12, if_true, if_false, eq_self, true_and, and_true, false_or, or_false, true_or, or_true, false_and, and_false, not_true, not_false_eq_true, ne_eq, ite_self, ite_not, ↓reduceIte, n_101, n_107, n_11]
theorem key_ok : (if cF s c 0 = nI 0 then nI 0 else nI 1) = okey s c := rfl
/-- a copy takes his part -/
theorem k39 (hg : isG g w) (hR : Rep I w s) (hW : WF s) (hc : c < nC s) (he : e < nE s) (hp : p < nP s) (h1 : eF s e 1 = nI p) (hq : q < p) (e2 : pF s p 2 = nI q) (hk : k ≤ 3) (e6 : pF s p 6 = nI k) (hh : HC J (g + 1) h) (hb : ∀ x, h x ≤ WH) (h0 : h p = 0) (h4 : 4 ∣ h q) :
    ∃ I' J', F1 (w + 12) I' I ∧ G1 (g + 1) J' J ∧ HC J' (g + 1) (if onE s (okey s c) e p (cF s c 2) (nI c) = nI 1 then upN (upN h p (h q)) q 0 else if onE s (okey s c) e p (cF s c 2) (nI c) = nI 2 then upN (upN h p (h q / 4 * k)) q (h q - h q / 4 * k) else if onE s (okey s c) e p (cF s c 2) (nI c) = nI 3 then upN h p (h q) else h) ∧
      am_cal (d + 5) 39 [.ref g, .int (nI c), .ref (w + 25 + e)] (mS I J) = some (none, mS I' J') := by
  have h12 := hW.nP.1
  have hc12 := hW.nC.1
  have h18 := hW.nE.1
  have hw := hg.w
  have i0c : (nI (c)).toNatClampNeg = c := nI_clamp (by omega)
  have i0z : (nI (c) < 0) = False := n_ge0 (by omega)
  have i0l : (12 ≤ c) = False := n_lef (by omega)
  have i1c : (nI (p)).toNatClampNeg = p := nI_clamp (by omega)
  have i1z : (nI (p) < 0) = False := n_ge0 (by omega)
  have i1l : (12 ≤ p) = False := n_lef (by omega)
  have i2c : (nI (q)).toNatClampNeg = q := nI_clamp (by omega)
  have i2z : (nI (q) < 0) = False := n_ge0 (by omega)
  have i2l : (12 ≤ q) = False := n_lef (by omega)
  have c0 := hR.cF hc (show 0 < 5 by decide)
  have c2 := hR.cF hc (show 2 < 5 by decide)
  have v1 := hR.eF he (show 1 < 3 by decide)
  have v2 := hR.eF he (show 2 < 3 by decide)
  have bq := hb q
  have ew : WH = 4194304 := rfl
  obtain ⟨I', hF, hr⟩ := k86 (d := d) (J := J) (key := okey s c) (y := eF s e 2) (a := cF s c 2) (h5 := nI c) hw hR hW hp
  have hr : am_cal (d + 4) 86 [.ref w, .int (okey s c), .int (nI p), .int (eF s e 2), .int (cF s c 2), .int (nI c)] (mS I J) = some (some (.int (onE s (okey s c) e p (cF s c 2) (nI c))), mS I' J) := hr
  have hR2 := hR.fr hW (fun a _ _ ha => hF a ha)
  generalize onE s (okey s c) e p (cF s c 2) (nI c) = v at hr ⊢
  have p2 := hR2.pF hp (show 2 < 8 by decide)
  have p6 := hR2.pF hp (show 6 < 8 by decide)
  have v1' := hR2.eF he (show 1 < 3 by decide)
  rw [h1] at v1 v1'
  rw [e2] at p2
  rw [e6] at p6
  have ek : (nI k).toInt64 = lN k := nI_l (by omega)
  obtain ⟨t, ht⟩ := h4
  have edv : lN (h q) * lN k / lN 4 = lN (h q / 4 * k) := by
    have hm : h q * k ≤ h q * 3 := Nat.mul_le_mul_left _ hk
    rw [lN_mul, LN_div (by omega) (by decide) (by decide), ht, Nat.mul_div_cancel_left t (by decide), Nat.mul_assoc, Nat.mul_div_cancel_left (t * k) (by decide)]
  have lqk : h q / 4 * k ≤ h q := by
    have : h q / 4 * k ≤ h q / 4 * 4 := Nat.mul_le_mul_left _ (by omega)
    omega
  obtain ⟨J1, hG1, hH1, hr1⟩ := k38 (d := d + 3) (I := I') (J := J) hg hh hb (show q < 12 by omega) (show p < 12 by omega) (show q ≠ p by omega)
  have e1 : upN (upN h p (min WH (h p + h q))) q 0 = upN (upN h p (h q)) q 0 := by rw [h0, Nat.zero_add, Nat.min_eq_right bq]
  rw [e1] at hH1
  have z4 : (lN 4 = 0) = False := eq_false (by decide +kernel)
  have hH2 := HC.up (HC.up hh (p := p) (v := h q / 4 * k)) (p := q) (v := h q - h q / 4 * k)
  have hH3 := HC.up hh (p := p) (v := h q)
  have fin : ∃ J', G1 (g + 1) J' J ∧ HC J' (g + 1) (if v = nI 1 then upN (upN h p (h q)) q 0 else if v = nI 2 then upN (upN h p (h q / 4 * k)) q (h q - h q / 4 * k) else if v = nI 3 then upN h p (h q) else h) ∧ am_cal (d + 5) 39 [.ref g, .int (nI c), .ref (w + 25 + e)] (mS I J) = some (none, mS I' J') := by
    have op := c_39 (d := d + 4) (b0 := g) (x1 := nI c) (b2 := w + 25 + e) (I := I) (J := J) (g_C hg)
    rw [op]
    have ok0 : cF s c 0 = nI 0 → okey s c = nI 0 := fun h => if_pos h
    have ok1 : ¬ cF s c 0 = nI 0 → okey s c = nI 1 := fun h => if_neg h
    by_cases hc0 : cF s c 0 = nI 0
    · rw [ok0 hc0] at hr
      by_cases hv1 : v = nI 1
      · refine ⟨J1, hG1, by rw [if_pos hv1]; exact hH1, ?_⟩
        simp only [g_C hg, g_R0 hg, g_R1 hg, g_C1 hg, g_L1 hg, w_C hw, w_R0 hw, w_R2 hw, w_C1 hw, w_L1 hw, w_C3 hw, w_L3 hw, w_cp hw (show p < 12 by omega), w_rp hw (show p < 12 by omega), w_cc hw (show c < 12 by omega), w_rc hw (show c < 12 by omega), w_ce hw (show e < 18 by omega), i0c, i0z, i0l, i1c, i1z, i1l, i2c, i2z, i2l, c0, c2, v1, v2, v1', p2, p6, hc0, hr, hv1, hr1, nn_0_1, nn_0_2, nn_0_3, nn_0_4, nn_0_5, nn_0_6, nn_0_7, nn_0_8, nn_1_0, nn_1_2, nn_1_3, nn_1_4, nn_1_5, nn_1_6, nn_1_7, nn_1_8, nn_2_0, nn_2_1, nn_2_3, nn_2_4, nn_2_5, nn_2_6, nn_2_7, nn_2_8, nn_3_0, nn_3_1, nn_3_2, nn_3_4, nn_3_5, nn_3_6, nn_3_7, nn_3_8, nn_4_0, nn_4_1, nn_4_2, nn_4_3, nn_4_5, nn_4_6, nn_4_7, nn_4_8, nn_5_0, nn_5_1, nn_5_2, nn_5_3, nn_5_4, nn_5_6, nn_5_7, nn_5_8, nn_6_0, nn_6_1, nn_6_2, nn_6_3, nn_6_4, nn_6_5, nn_6_7, nn_6_8, nn_7_0, nn_7_1, nn_7_2, nn_7_3, nn_7_4, nn_7_5, nn_7_6, nn_7_8, nn_8_0, nn_8_1, nn_8_2, nn_8_3, nn_8_4, nn_8_5, nn_8_6, nn_8_7, nq_0, nq_1, nq_2, nq_3, nq_4, nq_5, nq_6, nq_7, nq_8, bq_s, mS_c, mS_l, mS_r, mS_i, mS_j, mS_pi, mS_pj, lt_st, bq_s, bV_s, bI_s, bJ_s, bA_s, nz_0, nc_0, nz_1, nc_1, nz_2, nc_2, nz_3, nc_3, nz_4, nc_4, nz_5, nc_5, nz_6, nc_6, nz_7, nc_7, nz_8, nc_8, nz_9, nc_9, nz_10, nc_10, nz_11, nc_11, nz_12, nc_12, if_true, if_false, eq_self, true_and, and_true, false_or, or_false, true_or, or_true, false_and, and_false, not_true, not_false_eq_true, ne_eq, ite_self, ite_not, ↓reduceIte, n_101, n_107, n_11]
      · by_cases hv2 : v = nI 2
        · refine ⟨_, wJ_G1.tr wJ_G1, by rw [if_neg hv1, if_pos hv2]; exact hH2, ?_⟩
          simp only [g_C hg, g_R0 hg, g_R1 hg, g_C1 hg, g_L1 hg, w_C hw, w_R0 hw, w_R2 hw, w_C1 hw, w_L1 hw, w_C3 hw, w_L3 hw, w_cp hw (show p < 12 by omega), w_rp hw (show p < 12 by omega), w_cc hw (show c < 12 by omega), w_rc hw (show c < 12 by omega), w_ce hw (show e < 18 by omega), i0c, i0z, i0l, i1c, i1z, i1l, i2c, i2z, i2l, c0, c2, v1, v2, v1', p2, p6, ek, z4, hh q (show q < 12 by omega), edv, wJ_eq, wJ_nk (show q ≠ p by omega), lN_sub lqk, hc0, hr, hv2, nn_0_1, nn_0_2, nn_0_3, nn_0_4, nn_0_5, nn_0_6, nn_0_7, nn_0_8, nn_1_0, nn_1_2, nn_1_3, nn_1_4, nn_1_5, nn_1_6, nn_1_7, nn_1_8, nn_2_0, nn_2_1, nn_2_3, nn_2_4, nn_2_5, nn_2_6, nn_2_7, nn_2_8, nn_3_0, nn_3_1, nn_3_2, nn_3_4, nn_3_5, nn_3_6, nn_3_7, nn_3_8, nn_4_0, nn_4_1, nn_4_2, nn_4_3, nn_4_5, nn_4_6, nn_4_7, nn_4_8, nn_5_0, nn_5_1, nn_5_2, nn_5_3, nn_5_4, nn_5_6, nn_5_7, nn_5_8, nn_6_0, nn_6_1, nn_6_2, nn_6_3, nn_6_4, nn_6_5, nn_6_7, nn_6_8, nn_7_0, nn_7_1, nn_7_2, nn_7_3, nn_7_4, nn_7_5, nn_7_6, nn_7_8, nn_8_0, nn_8_1, nn_8_2, nn_8_3, nn_8_4, nn_8_5, nn_8_6, nn_8_7, nq_0, nq_1, nq_2, nq_3, nq_4, nq_5, nq_6, nq_7, nq_8, bq_s, mS_c, mS_l, mS_r, mS_i, mS_j, mS_pi, mS_pj, lt_st, bq_s, bV_s, bI_s, bJ_s, bA_s, nz_0, nc_0, nz_1, nc_1, nz_2, nc_2, nz_3, nc_3, nz_4, nc_4, nz_5, nc_5, nz_6, nc_6, nz_7, nc_7, nz_8, nc_8, nz_9, nc_9, nz_10, nc_10, nz_11, nc_11, nz_12, nc_12, if_true, if_false, eq_self, true_and, and_true, false_or, or_false, true_or, or_true, false_and, and_false, not_true, not_false_eq_true, ne_eq, ite_self, ite_not, ↓reduceIte, n_101, n_107, n_11]
        · by_cases hv3 : v = nI 3
          · refine ⟨_, wJ_G1, by rw [if_neg hv1, if_neg hv2, if_pos hv3]; exact hH3, ?_⟩
            simp only [g_C hg, g_R0 hg, g_R1 hg, g_C1 hg, g_L1 hg, w_C hw, w_R0 hw, w_R2 hw, w_C1 hw, w_L1 hw, w_C3 hw, w_L3 hw, w_cp hw (show p < 12 by omega), w_rp hw (show p < 12 by omega), w_cc hw (show c < 12 by omega), w_rc hw (show c < 12 by omega), w_ce hw (show e < 18 by omega), i0c, i0z, i0l, i1c, i1z, i1l, i2c, i2z, i2l, c0, c2, v1, v2, v1', p2, p6, hh q (show q < 12 by omega), hc0, hr, hv3, nn_0_1, nn_0_2, nn_0_3, nn_0_4, nn_0_5, nn_0_6, nn_0_7, nn_0_8, nn_1_0, nn_1_2, nn_1_3, nn_1_4, nn_1_5, nn_1_6, nn_1_7, nn_1_8, nn_2_0, nn_2_1, nn_2_3, nn_2_4, nn_2_5, nn_2_6, nn_2_7, nn_2_8, nn_3_0, nn_3_1, nn_3_2, nn_3_4, nn_3_5, nn_3_6, nn_3_7, nn_3_8, nn_4_0, nn_4_1, nn_4_2, nn_4_3, nn_4_5, nn_4_6, nn_4_7, nn_4_8, nn_5_0, nn_5_1, nn_5_2, nn_5_3, nn_5_4, nn_5_6, nn_5_7, nn_5_8, nn_6_0, nn_6_1, nn_6_2, nn_6_3, nn_6_4, nn_6_5, nn_6_7, nn_6_8, nn_7_0, nn_7_1, nn_7_2, nn_7_3, nn_7_4, nn_7_5, nn_7_6, nn_7_8, nn_8_0, nn_8_1, nn_8_2, nn_8_3, nn_8_4, nn_8_5, nn_8_6, nn_8_7, nq_0, nq_1, nq_2, nq_3, nq_4, nq_5, nq_6, nq_7, nq_8, bq_s, mS_c, mS_l, mS_r, mS_i, mS_j, mS_pi, mS_pj, lt_st, bq_s, bV_s, bI_s, bJ_s, bA_s, nz_0, nc_0, nz_1, nc_1, nz_2, nc_2, nz_3, nc_3, nz_4, nc_4, nz_5, nc_5, nz_6, nc_6, nz_7, nc_7, nz_8, nc_8, nz_9, nc_9, nz_10, nc_10, nz_11, nc_11, nz_12, nc_12, if_true, if_false, eq_self, true_and, and_true, false_or, or_false, true_or, or_true, false_and, and_false, not_true, not_false_eq_true, ne_eq, ite_self, ite_not, ↓reduceIte, n_101, n_107, n_11]
          · refine ⟨J, fun _ _ => rfl, by rw [if_neg hv1, if_neg hv2, if_neg hv3]; exact hh, ?_⟩
            simp only [g_C hg, g_R0 hg, g_R1 hg, g_C1 hg, g_L1 hg, w_C hw, w_R0 hw, w_R2 hw, w_C1 hw, w_L1 hw, w_C3 hw, w_L3 hw, w_cp hw (show p < 12 by omega), w_rp hw (show p < 12 by omega), w_cc hw (show c < 12 by omega), w_rc hw (show c < 12 by omega), w_ce hw (show e < 18 by omega), i0c, i0z, i0l, i1c, i1z, i1l, i2c, i2z, i2l, c0, c2, v1, v2, v1', p2, p6, hc0, hr, hv1, hv2, hv3, nn_0_1, nn_0_2, nn_0_3, nn_0_4, nn_0_5, nn_0_6, nn_0_7, nn_0_8, nn_1_0, nn_1_2, nn_1_3, nn_1_4, nn_1_5, nn_1_6, nn_1_7, nn_1_8, nn_2_0, nn_2_1, nn_2_3, nn_2_4, nn_2_5, nn_2_6, nn_2_7, nn_2_8, nn_3_0, nn_3_1, nn_3_2, nn_3_4, nn_3_5, nn_3_6, nn_3_7, nn_3_8, nn_4_0, nn_4_1, nn_4_2, nn_4_3, nn_4_5, nn_4_6, nn_4_7, nn_4_8, nn_5_0, nn_5_1, nn_5_2, nn_5_3, nn_5_4, nn_5_6, nn_5_7, nn_5_8, nn_6_0, nn_6_1, nn_6_2, nn_6_3, nn_6_4, nn_6_5, nn_6_7, nn_6_8, nn_7_0, nn_7_1, nn_7_2, nn_7_3, nn_7_4, nn_7_5, nn_7_6, nn_7_8, nn_8_0, nn_8_1, nn_8_2, nn_8_3, nn_8_4, nn_8_5, nn_8_6, nn_8_7, nq_0, nq_1, nq_2, nq_3, nq_4, nq_5, nq_6, nq_7, nq_8, bq_s, mS_c, mS_l, mS_r, mS_i, mS_j, mS_pi, mS_pj, lt_st, bq_s, bV_s, bI_s, bJ_s, bA_s, nz_0, nc_0, nz_1, nc_1, nz_2, nc_2, nz_3, nc_3, nz_4, nc_4, nz_5, nc_5, nz_6, nc_6, nz_7, nc_7, nz_8, nc_8, nz_9, nc_9, nz_10, nc_10, nz_11, nc_11, nz_12, nc_12, if_true, if_false, eq_self, true_and, and_true, false_or, or_false, true_or, or_true, false_and, and_false, not_true, not_false_eq_true, ne_eq, ite_self, ite_not, ↓reduceIte, n_101, n_107, n_11]
    · rw [ok1 hc0] at hr
      have hz : (cF s c 0 = 0) = False := eq_false (by rw [n_i0]; exact hc0)
      by_cases hv1 : v = nI 1
      · refine ⟨J1, hG1, by rw [if_pos hv1]; exact hH1, ?_⟩
        simp only [g_C hg, g_R0 hg, g_R1 hg, g_C1 hg, g_L1 hg, w_C hw, w_R0 hw, w_R2 hw, w_C1 hw, w_L1 hw, w_C3 hw, w_L3 hw, w_cp hw (show p < 12 by omega), w_rp hw (show p < 12 by omega), w_cc hw (show c < 12 by omega), w_rc hw (show c < 12 by omega), w_ce hw (show e < 18 by omega), i0c, i0z, i0l, i1c, i1z, i1l, i2c, i2z, i2l, c0, c2, v1, v2, v1', p2, p6, hz, hr, hv1, hr1, nn_0_1, nn_0_2, nn_0_3, nn_0_4, nn_0_5, nn_0_6, nn_0_7, nn_0_8, nn_1_0, nn_1_2, nn_1_3, nn_1_4, nn_1_5, nn_1_6, nn_1_7, nn_1_8, nn_2_0, nn_2_1, nn_2_3, nn_2_4, nn_2_5, nn_2_6, nn_2_7, nn_2_8, nn_3_0, nn_3_1, nn_3_2, nn_3_4, nn_3_5, nn_3_6, nn_3_7, nn_3_8, nn_4_0, nn_4_1, nn_4_2, nn_4_3, nn_4_5, nn_4_6, nn_4_7, nn_4_8, nn_5_0, nn_5_1, nn_5_2, nn_5_3, nn_5_4, nn_5_6, nn_5_7, nn_5_8, nn_6_0, nn_6_1, nn_6_2, nn_6_3, nn_6_4, nn_6_5, nn_6_7, nn_6_8, nn_7_0, nn_7_1, nn_7_2, nn_7_3, nn_7_4, nn_7_5, nn_7_6, nn_7_8, nn_8_0, nn_8_1, nn_8_2, nn_8_3, nn_8_4, nn_8_5, nn_8_6, nn_8_7, nq_0, nq_1, nq_2, nq_3, nq_4, nq_5, nq_6, nq_7, nq_8, bq_s, mS_c, mS_l, mS_r, mS_i, mS_j, mS_pi, mS_pj, lt_st, bq_s, bV_s, bI_s, bJ_s, bA_s, nz_0, nc_0, nz_1, nc_1, nz_2, nc_2, nz_3, nc_3, nz_4, nc_4, nz_5, nc_5, nz_6, nc_6, nz_7, nc_7, nz_8, nc_8, nz_9, nc_9, nz_10, nc_10, nz_11, nc_11, nz_12, nc_12, if_true, if_false, eq_self, true_and, and_true, false_or, or_false, true_or, or_true, false_and, and_false, not_true, not_false_eq_true, ne_eq, ite_self, ite_not, ↓reduceIte, n_101, n_107, n_11]
      · by_cases hv2 : v = nI 2
        · refine ⟨_, wJ_G1.tr wJ_G1, by rw [if_neg hv1, if_pos hv2]; exact hH2, ?_⟩
          simp only [g_C hg, g_R0 hg, g_R1 hg, g_C1 hg, g_L1 hg, w_C hw, w_R0 hw, w_R2 hw, w_C1 hw, w_L1 hw, w_C3 hw, w_L3 hw, w_cp hw (show p < 12 by omega), w_rp hw (show p < 12 by omega), w_cc hw (show c < 12 by omega), w_rc hw (show c < 12 by omega), w_ce hw (show e < 18 by omega), i0c, i0z, i0l, i1c, i1z, i1l, i2c, i2z, i2l, c0, c2, v1, v2, v1', p2, p6, ek, z4, hh q (show q < 12 by omega), edv, wJ_eq, wJ_nk (show q ≠ p by omega), lN_sub lqk, hz, hr, hv2, nn_0_1, nn_0_2, nn_0_3, nn_0_4, nn_0_5, nn_0_6, nn_0_7, nn_0_8, nn_1_0, nn_1_2, nn_1_3, nn_1_4, nn_1_5, nn_1_6, nn_1_7, nn_1_8, nn_2_0, nn_2_1, nn_2_3, nn_2_4, nn_2_5, nn_2_6, nn_2_7, nn_2_8, nn_3_0, nn_3_1, nn_3_2, nn_3_4, nn_3_5, nn_3_6, nn_3_7, nn_3_8, nn_4_0, nn_4_1, nn_4_2, nn_4_3, nn_4_5, nn_4_6, nn_4_7, nn_4_8, nn_5_0, nn_5_1, nn_5_2, nn_5_3, nn_5_4, nn_5_6, nn_5_7, nn_5_8, nn_6_0, nn_6_1, nn_6_2, nn_6_3, nn_6_4, nn_6_5, nn_6_7, nn_6_8, nn_7_0, nn_7_1, nn_7_2, nn_7_3, nn_7_4, nn_7_5, nn_7_6, nn_7_8, nn_8_0, nn_8_1, nn_8_2, nn_8_3, nn_8_4, nn_8_5, nn_8_6, nn_8_7, nq_0, nq_1, nq_2, nq_3, nq_4, nq_5, nq_6, nq_7, nq_8, bq_s, mS_c, mS_l, mS_r, mS_i, mS_j, mS_pi, mS_pj, lt_st, bq_s, bV_s, bI_s, bJ_s, bA_s, nz_0, nc_0, nz_1, nc_1, nz_2, nc_2, nz_3, nc_3, nz_4, nc_4, nz_5, nc_5, nz_6, nc_6, nz_7, nc_7, nz_8, nc_8, nz_9, nc_9, nz_10, nc_10, nz_11, nc_11, nz_12, nc_12, if_true, if_false, eq_self, true_and, and_true, false_or, or_false, true_or, or_true, false_and, and_false, not_true, not_false_eq_true, ne_eq, ite_self, ite_not, ↓reduceIte, n_101, n_107, n_11]
        · by_cases hv3 : v = nI 3
          · refine ⟨_, wJ_G1, by rw [if_neg hv1, if_neg hv2, if_pos hv3]; exact hH3, ?_⟩
            simp only [g_C hg, g_R0 hg, g_R1 hg, g_C1 hg, g_L1 hg, w_C hw, w_R0 hw, w_R2 hw, w_C1 hw, w_L1 hw, w_C3 hw, w_L3 hw, w_cp hw (show p < 12 by omega), w_rp hw (show p < 12 by omega), w_cc hw (show c < 12 by omega), w_rc hw (show c < 12 by omega), w_ce hw (show e < 18 by omega), i0c, i0z, i0l, i1c, i1z, i1l, i2c, i2z, i2l, c0, c2, v1, v2, v1', p2, p6, hh q (show q < 12 by omega), hz, hr, hv3, nn_0_1, nn_0_2, nn_0_3, nn_0_4, nn_0_5, nn_0_6, nn_0_7, nn_0_8, nn_1_0, nn_1_2, nn_1_3, nn_1_4, nn_1_5, nn_1_6, nn_1_7, nn_1_8, nn_2_0, nn_2_1, nn_2_3, nn_2_4, nn_2_5, nn_2_6, nn_2_7, nn_2_8, nn_3_0, nn_3_1, nn_3_2, nn_3_4, nn_3_5, nn_3_6, nn_3_7, nn_3_8, nn_4_0, nn_4_1, nn_4_2, nn_4_3, nn_4_5, nn_4_6, nn_4_7, nn_4_8, nn_5_0, nn_5_1, nn_5_2, nn_5_3, nn_5_4, nn_5_6, nn_5_7, nn_5_8, nn_6_0, nn_6_1, nn_6_2, nn_6_3, nn_6_4, nn_6_5, nn_6_7, nn_6_8, nn_7_0, nn_7_1, nn_7_2, nn_7_3, nn_7_4, nn_7_5, nn_7_6, nn_7_8, nn_8_0, nn_8_1, nn_8_2, nn_8_3, nn_8_4, nn_8_5, nn_8_6, nn_8_7, nq_0, nq_1, nq_2, nq_3, nq_4, nq_5, nq_6, nq_7, nq_8, bq_s, mS_c, mS_l, mS_r, mS_i, mS_j, mS_pi, mS_pj, lt_st, bq_s, bV_s, bI_s, bJ_s, bA_s, nz_0, nc_0, nz_1, nc_1, nz_2, nc_2, nz_3, nc_3, nz_4, nc_4, nz_5, nc_5, nz_6, nc_6, nz_7, nc_7, nz_8, nc_8, nz_9, nc_9, nz_10, nc_10, nz_11, nc_11, nz_12, nc_12, if_true, if_false, eq_self, true_and, and_true, false_or, or_false, true_or, or_true, false_and, and_false, not_true, not_false_eq_true, ne_eq, ite_self, ite_not, ↓reduceIte, n_101, n_107, n_11]
          · refine ⟨J, fun _ _ => rfl, by rw [if_neg hv1, if_neg hv2, if_neg hv3]; exact hh, ?_⟩
            simp only [g_C hg, g_R0 hg, g_R1 hg, g_C1 hg, g_L1 hg, w_C hw, w_R0 hw, w_R2 hw, w_C1 hw, w_L1 hw, w_C3 hw, w_L3 hw, w_cp hw (show p < 12 by omega), w_rp hw (show p < 12 by omega), w_cc hw (show c < 12 by omega), w_rc hw (show c < 12 by omega), w_ce hw (show e < 18 by omega), i0c, i0z, i0l, i1c, i1z, i1l, i2c, i2z, i2l, c0, c2, v1, v2, v1', p2, p6, hz, hr, hv1, hv2, hv3, nn_0_1, nn_0_2, nn_0_3, nn_0_4, nn_0_5, nn_0_6, nn_0_7, nn_0_8, nn_1_0, nn_1_2, nn_1_3, nn_1_4, nn_1_5, nn_1_6, nn_1_7, nn_1_8, nn_2_0, nn_2_1, nn_2_3, nn_2_4, nn_2_5, nn_2_6, nn_2_7, nn_2_8, nn_3_0, nn_3_1, nn_3_2, nn_3_4, nn_3_5, nn_3_6, nn_3_7, nn_3_8, nn_4_0, nn_4_1, nn_4_2, nn_4_3, nn_4_5, nn_4_6, nn_4_7, nn_4_8, nn_5_0, nn_5_1, nn_5_2, nn_5_3, nn_5_4, nn_5_6, nn_5_7, nn_5_8, nn_6_0, nn_6_1, nn_6_2, nn_6_3, nn_6_4, nn_6_5, nn_6_7, nn_6_8, nn_7_0, nn_7_1, nn_7_2, nn_7_3, nn_7_4, nn_7_5, nn_7_6, nn_7_8, nn_8_0, nn_8_1, nn_8_2, nn_8_3, nn_8_4, nn_8_5, nn_8_6, nn_8_7, nq_0, nq_1, nq_2, nq_3, nq_4, nq_5, nq_6, nq_7, nq_8, bq_s, mS_c, mS_l, mS_r, mS_i, mS_j, mS_pi, mS_pj, lt_st, bq_s, bV_s, bI_s, bJ_s, bA_s, nz_0, nc_0, nz_1, nc_1, nz_2, nc_2, nz_3, nc_3, nz_4, nc_4, nz_5, nc_5, nz_6, nc_6, nz_7, nc_7, nz_8, nc_8, nz_9, nc_9, nz_10, nc_10, nz_11, nc_11, nz_12, nc_12, if_true, if_false, eq_self, true_and, and_true, false_or, or_false, true_or, or_true, false_and, and_false, not_true, not_false_eq_true, ne_eq, ite_self, ite_not, ↓reduceIte, n_101, n_107, n_11]
  obtain ⟨J', a, b, cc⟩ := fin
  exact ⟨I', J', hF, a, b, cc⟩
/-- the bits of an ending: who ended him is told -/
theorem until_ok (hR : Rep I w s) (hW : WF s) (hq : q < nP s) (he : e < nE s) (hn : ¬ endAt s q e) : (nI e < I (w + 13 + q) 8) = stl s q e := by
  have h18 := hW.nE.1
  obtain ⟨_, _, _, _, u1, u2⟩ := hR.2.1 q hq
  by_cases hx : ∃ e', e' < nE s ∧ endAt s q e'
  · obtain ⟨u, hu, hend⟩ := hx
    rw [u1 u hu hend, n_lt (by omega) (by omega)]
    refine propext ⟨fun h e' h1 h2 => ?_, fun h => ?_⟩
    · have := (hW.2.2.2.1 q u e' hq hu (by omega) hend).1 h2
      omega
    · have h1 : ¬ u < e := fun hh => h u hh hend
      have h2 : u ≠ e := fun hh => hn (hh ▸ hend)
      omega
  · have hall : ∀ e', e' < nE s → ¬ endAt s q e' := fun e' h1 h2 => hx ⟨e', h1, h2⟩
    rw [u2 hall, n_lt (by omega) (by decide)]
    exact propext ⟨fun _ e' h1 => hall e' (by omega), fun _ => by omega⟩
theorem endAt_4 (h4 : eF s e 0 = nI 4) (h1 : eF s e 1 = nI p) (hp : p < 2 ^ 31) (hq : q < 2 ^ 31) (hpq : p ≠ q) : ¬ endAt s q e := by
  rintro (⟨_, h⟩ | ⟨h, _⟩)
  · exact hpq ((nI_eq hp hq).mp (h1.symm.trans h))
  · rw [h4] at h; exact absurd h (by decide)
set_option maxHeartbeats 4000000 in
/-- one event -/
theorem k37e (hg : isG g w) (hR : Rep I w s) (hW : WF s) (hc : c < nC s) (he : e < nE s) (hh : HC J (g + 1) h) (hI : shI s e h) : ∃ I' J', F1 (w + 12) I' I ∧ G1 (g + 1) J' J ∧ HC J' (g + 1) (shE s c e h) ∧
    am_X (am_cal (d + 5)) 37 29 [.ref g, .int (nI c), .ref (w + 43 + c), .int (nI e), .null, .null] [] (mS I J) = am_X (am_cal (d + 5)) 37 29 [.ref g, .int (nI c), .ref (w + 43 + c), .int (nI (e + 1)), .null, .null] [] (mS I' J') := by
  have h12 := hW.nP.1
  have hc12 := hW.nC.1
  have h18 := hW.nE.1
  have hw := hg.w
  obtain ⟨i1, i2, i3⟩ := hI
  obtain ⟨p, hp, h1, hby, hs⟩ := WFev hW he
  have i0c : (nI (e)).toNatClampNeg = e := nI_clamp (by omega)
  have i0z : (nI (e) < 0) = False := n_ge0 (by omega)
  have i0l : (18 ≤ e) = False := n_lef (by omega)
  have j0c : (nI (p)).toNatClampNeg = p := nI_clamp (by omega)
  have j0z : (nI (p) < 0) = False := n_ge0 (by omega)
  have j0l : (12 ≤ p) = False := n_lef (by omega)
  have v0 := hR.eF he (show 0 < 3 by decide)
  have v1 := hR.eF he (show 1 < 3 by decide)
  rw [h1] at v1
  have c3 := hR.cF hc (show 3 < 5 by decide)
  have pf : ∀ f, f < 8 → I (w + 13 + p) f = pF s p f := fun f hf => hR.pF hp hf
  have ev := hR.evs
  rw [hW.nE.2] at ev
  have e31 : (nI e < nI (nE s)) = True := eq_true (nI_lt he (by omega))
  rw [shE_p h1 (by omega)]
  by_cases s3 : eF s e 0 = nI 3
  · have h4 : byE s p = e ∧ pF s p 1 = nI 4 := by
      rcases hs with ⟨hs, _⟩ | ⟨hs, _⟩ | ⟨hs, _⟩ | ⟨_, hs⟩ | ⟨hs, _⟩
      · rw [s3] at hs; exact absurd hs (by decide)
      · rw [s3] at hs; exact absurd hs (by decide)
      · rw [s3] at hs; exact absurd hs (by decide)
      · exact hs
      · rw [s3] at hs; exact absurd hs (by decide)
    obtain ⟨q, r, hq, hr, e2, e3, hqr⟩ := WFjq hW hp h4.2
    have p2 := pf 2 (by decide)
    have p3 := pf 3 (by decide)
    rw [e2] at p2
    rw [e3] at p3
    have h0 : h p = 0 := i3 p hp (stt_new hW hp (by omega) h4.1)
    obtain ⟨J1, hG1, hH1, hr1⟩ := k38 (d := d + 4) (I := I) (J := J) hg hh i1 (show q < 12 by omega) (show p < 12 by omega) (show q ≠ p by omega)
    obtain ⟨J2, hG2, hH2, hr2⟩ := k38 (d := d + 4) (I := I) (J := J1) hg hH1 (le_up (le_up i1 (Nat.min_le_left _ _)) (Nat.zero_le _)) (show r < 12 by omega) (show p < 12 by omega) (show r ≠ p by omega)
    refine ⟨I, J2, fun _ _ => rfl, hG1.tr hG2, ?_, ?_⟩
    · unfold shS
      rw [if_pos s3, e2, e3, nI_clamp (by omega), nI_clamp (by omega)]
      have e5 : upN (upN (upN (upN h p (min WH (h p + h q))) q 0) p (min WH (upN (upN h p (min WH (h p + h q))) q 0 p + upN (upN h p (min WH (h p + h q))) q 0 r))) r 0 = upN (upN (upN h p (min WH (h q + h r))) q 0) r 0 := by
        have bq := i1 q
        have br := i1 r
        have a1 : upN (upN h p (min WH (h p + h q))) q 0 p = h q := by rw [upN_n (by omega), upN_e, h0, Nat.zero_add, Nat.min_eq_right bq]
        have a2 : upN (upN h p (min WH (h p + h q))) q 0 r = h r := by rw [upN_n (by omega), upN_n (by omega)]
        rw [a1, a2]
        funext x
        unfold upN
        by_cases xr : x = r
        · rw [if_pos xr, if_pos xr]
        · rw [if_neg xr, if_neg xr]
          by_cases xp : x = p
          · rw [if_pos xp, if_neg (by omega), if_pos xp]
          · rw [if_neg xp, if_neg xp]
            by_cases xq : x = q
            · rw [if_pos xq, if_pos xq]
            · rw [if_neg xq, if_neg xq]
              rw [if_neg xp]
      rw [← e5]
      exact hH2
    · rw [e_37_29]
      simp only [g_C hg, g_R0 hg, g_R1 hg, g_C1 hg, g_L1 hg, w_C hw, w_R0 hw, w_R1 hw, w_C1 hw, w_L1 hw, w_C2 hw, w_L2 hw, w_cp hw (show p < 12 by omega), w_rp hw (show p < 12 by omega), w_ce hw (show e < 18 by omega), w_re hw (show e < 18 by omega), i0c, i0z, i0l, j0c, j0z, j0l, ev, e31, v0, v1, p2, p3, s3, hr1, hr2, nI_add, nn_0_1, nn_0_2, nn_0_3, nn_0_4, nn_0_5, nn_0_6, nn_0_7, nn_0_8, nn_1_0, nn_1_2, nn_1_3, nn_1_4, nn_1_5, nn_1_6, nn_1_7, nn_1_8, nn_2_0, nn_2_1, nn_2_3, nn_2_4, nn_2_5, nn_2_6, nn_2_7, nn_2_8, nn_3_0, nn_3_1, nn_3_2, nn_3_4, nn_3_5, nn_3_6, nn_3_7, nn_3_8, nn_4_0, nn_4_1, nn_4_2, nn_4_3, nn_4_5, nn_4_6, nn_4_7, nn_4_8, nn_5_0, nn_5_1, nn_5_2, nn_5_3, nn_5_4, nn_5_6, nn_5_7, nn_5_8, nn_6_0, nn_6_1, nn_6_2, nn_6_3, nn_6_4, nn_6_5, nn_6_7, nn_6_8, nn_7_0, nn_7_1, nn_7_2, nn_7_3, nn_7_4, nn_7_5, nn_7_6, nn_7_8, nn_8_0, nn_8_1, nn_8_2, nn_8_3, nn_8_4, nn_8_5, nn_8_6, nn_8_7, nq_0, nq_1, nq_2, nq_3, nq_4, nq_5, nq_6, nq_7, nq_8, bq_s, mS_c, mS_l, mS_r, mS_i, mS_j, mS_pi, mS_pj, lt_st, bq_s, bV_s, bI_s, bJ_s, bA_s, nz_0, nc_0, nz_1, nc_1, nz_2, nc_2, nz_3, nc_3, nz_4, nc_4, nz_5, nc_5, nz_6, nc_6, nz_7, nc_7, nz_8, nc_8, nz_9, nc_9, nz_10, nc_10, nz_11, nc_11, nz_12, nc_12, if_true, if_false, eq_self, true_and, and_true, false_or, or_false, true_or, or_true, false_and, and_false, not_true, not_false_eq_true, ne_eq, ite_self, ite_not, ↓reduceIte, n_101, n_107, n_11]
  · by_cases s4 : eF s e 0 = nI 4
    · by_cases hcp : isCp s p
      · obtain ⟨q, hq, e2⟩ := WFcq hW hp hcp
        have q0c : (nI (q)).toNatClampNeg = q := nI_clamp (by omega)
        have q0z : (nI (q) < 0) = False := n_ge0 (by omega)
        have q0l : (12 ≤ q) = False := n_lef (by omega)
        have p1 := pf 1 (by decide)
        have p2 := pf 2 (by decide)
        rw [e2] at p2
        have hu := until_ok hR hW (show q < nP s by omega) he (endAt_4 s4 h1 (by omega) (by omega) (by omega))
        obtain ⟨J1, hG1, hH1, hr1⟩ := k38 (d := d + 4) (I := I) (J := J) hg hh i1 (show p < 12 by omega) (show q < 12 by omega) (show p ≠ q by omega)
        have hH1' := HC.up hH1 (p := p) (v := 0)
        have hH2 := HC.up hh (p := p) (v := 0)
        have e5 : upN (upN (upN h q (min WH (h q + h p))) p 0) p 0 = upN (upN h q (min WH (h q + h p))) p 0 := by
          funext x
          unfold upN
          by_cases xp : x = p
          · rw [if_pos xp, if_pos xp]
          · rw [if_neg xp]
        rw [e5] at hH1'
        have cpt : ∀ {z : Int32}, (if pF s p 1 = nI 2 then nI 1 else if pF s p 1 = nI 3 then nI 1 else if pF s p 1 = nI 5 then nI 1 else nI 0) = nI 1 := fun {z} => by
          rcases hcp with hT | hT | hT <;> rw [hT] <;> decide
        have h149 : am_cal (d + 5) 149 [.int (pF s p 1)] (mS I J) = some (some (.int (nI 1)), mS I J) := by
          rw [c_149]
          simp only [r_ite]
          rw [cpt (z := 0)]
        by_cases hst : stl s q e
        · refine ⟨I, wJ J1 (g + 1) p (lN 0), fun _ _ => rfl, hG1.tr wJ_G1, ?_, ?_⟩
          rotate_left
          · rw [e_37_29]
            simp only [g_C hg, g_R0 hg, g_R1 hg, g_C1 hg, g_L1 hg, w_C hw, w_R0 hw, w_R1 hw, w_C1 hw, w_L1 hw, w_C2 hw, w_L2 hw, w_cp hw (show p < 12 by omega), w_rp hw (show p < 12 by omega), w_cp hw (show q < 12 by omega), w_rp hw (show q < 12 by omega), w_ce hw (show e < 18 by omega), w_re hw (show e < 18 by omega), i0c, i0z, i0l, j0c, j0z, j0l, q0c, q0z, q0l, ev, e31, v0, v1, p1, p2, s4, h149, nn_0_1, nn_0_2, nn_0_3, nn_0_4, nn_0_5, nn_0_6, nn_0_7, nn_0_8, nn_1_0, nn_1_2, nn_1_3, nn_1_4, nn_1_5, nn_1_6, nn_1_7, nn_1_8, nn_2_0, nn_2_1, nn_2_3, nn_2_4, nn_2_5, nn_2_6, nn_2_7, nn_2_8, nn_3_0, nn_3_1, nn_3_2, nn_3_4, nn_3_5, nn_3_6, nn_3_7, nn_3_8, nn_4_0, nn_4_1, nn_4_2, nn_4_3, nn_4_5, nn_4_6, nn_4_7, nn_4_8, nn_5_0, nn_5_1, nn_5_2, nn_5_3, nn_5_4, nn_5_6, nn_5_7, nn_5_8, nn_6_0, nn_6_1, nn_6_2, nn_6_3, nn_6_4, nn_6_5, nn_6_7, nn_6_8, nn_7_0, nn_7_1, nn_7_2, nn_7_3, nn_7_4, nn_7_5, nn_7_6, nn_7_8, nn_8_0, nn_8_1, nn_8_2, nn_8_3, nn_8_4, nn_8_5, nn_8_6, nn_8_7, nq_0, nq_1, nq_2, nq_3, nq_4, nq_5, nq_6, nq_7, nq_8, bq_s, mS_c, mS_l, mS_r, mS_i, mS_j, mS_pi, mS_pj, lt_st, bq_s, bV_s, bI_s, bJ_s, bA_s, nz_0, nc_0, nz_1, nc_1, nz_2, nc_2, nz_3, nc_3, nz_4, nc_4, nz_5, nc_5, nz_6, nc_6, nz_7, nc_7, nz_8, nc_8, nz_9, nc_9, nz_10, nc_10, nz_11, nc_11, nz_12, nc_12, if_true, if_false, eq_self, true_and, and_true, false_or, or_false, true_or, or_true, false_and, and_false, not_true, not_false_eq_true, ne_eq, ite_self, ite_not, ↓reduceIte, n_101, n_107, n_11]
            rw [if_pos (of_eq_true (hu.trans (eq_true hst)))]
            simp only [hr1, g_C hg, g_R1 hg, g_C1 hg, g_L1 hg, w_ce hw (show e < 18 by omega), v1, j0c, j0z, j0l, nI_add, bq_s, mS_c, mS_l, mS_r, mS_i, mS_j, mS_pi, mS_pj, lt_st, bq_s, bV_s, bI_s, bJ_s, bA_s, nz_0, nc_0, nz_1, nc_1, nz_2, nc_2, nz_3, nc_3, nz_4, nc_4, nz_5, nc_5, nz_6, nc_6, nz_7, nc_7, nz_8, nc_8, nz_9, nc_9, nz_10, nc_10, nz_11, nc_11, nz_12, nc_12, if_true, if_false, eq_self, true_and, and_true, false_or, or_false, true_or, or_true, false_and, and_false, not_true, not_false_eq_true, ne_eq, ite_self, ite_not, ↓reduceIte, n_101, n_107, n_11]
          · unfold shS
            rw [if_neg s3, if_pos s4, e2, nI_clamp (by omega), if_pos ⟨hcp, hst⟩]
            exact hH1'
        · refine ⟨I, wJ J (g + 1) p (lN 0), fun _ _ => rfl, wJ_G1, ?_, ?_⟩
          rotate_left
          · rw [e_37_29]
            simp only [g_C hg, g_R0 hg, g_R1 hg, g_C1 hg, g_L1 hg, w_C hw, w_R0 hw, w_R1 hw, w_C1 hw, w_L1 hw, w_C2 hw, w_L2 hw, w_cp hw (show p < 12 by omega), w_rp hw (show p < 12 by omega), w_cp hw (show q < 12 by omega), w_rp hw (show q < 12 by omega), w_ce hw (show e < 18 by omega), w_re hw (show e < 18 by omega), i0c, i0z, i0l, j0c, j0z, j0l, q0c, q0z, q0l, ev, e31, v0, v1, p1, p2, s4, h149, nn_0_1, nn_0_2, nn_0_3, nn_0_4, nn_0_5, nn_0_6, nn_0_7, nn_0_8, nn_1_0, nn_1_2, nn_1_3, nn_1_4, nn_1_5, nn_1_6, nn_1_7, nn_1_8, nn_2_0, nn_2_1, nn_2_3, nn_2_4, nn_2_5, nn_2_6, nn_2_7, nn_2_8, nn_3_0, nn_3_1, nn_3_2, nn_3_4, nn_3_5, nn_3_6, nn_3_7, nn_3_8, nn_4_0, nn_4_1, nn_4_2, nn_4_3, nn_4_5, nn_4_6, nn_4_7, nn_4_8, nn_5_0, nn_5_1, nn_5_2, nn_5_3, nn_5_4, nn_5_6, nn_5_7, nn_5_8, nn_6_0, nn_6_1, nn_6_2, nn_6_3, nn_6_4, nn_6_5, nn_6_7, nn_6_8, nn_7_0, nn_7_1, nn_7_2, nn_7_3, nn_7_4, nn_7_5, nn_7_6, nn_7_8, nn_8_0, nn_8_1, nn_8_2, nn_8_3, nn_8_4, nn_8_5, nn_8_6, nn_8_7, nq_0, nq_1, nq_2, nq_3, nq_4, nq_5, nq_6, nq_7, nq_8, bq_s, mS_c, mS_l, mS_r, mS_i, mS_j, mS_pi, mS_pj, lt_st, bq_s, bV_s, bI_s, bJ_s, bA_s, nz_0, nc_0, nz_1, nc_1, nz_2, nc_2, nz_3, nc_3, nz_4, nc_4, nz_5, nc_5, nz_6, nc_6, nz_7, nc_7, nz_8, nc_8, nz_9, nc_9, nz_10, nc_10, nz_11, nc_11, nz_12, nc_12, if_true, if_false, eq_self, true_and, and_true, false_or, or_false, true_or, or_true, false_and, and_false, not_true, not_false_eq_true, ne_eq, ite_self, ite_not, ↓reduceIte, n_101, n_107, n_11]
            rw [if_neg (of_eq_false (hu.trans (eq_false hst)))]
            simp only [g_C hg, g_R1 hg, g_C1 hg, g_L1 hg, w_ce hw (show e < 18 by omega), v1, j0c, j0z, j0l, nI_add, bq_s, mS_c, mS_l, mS_r, mS_i, mS_j, mS_pi, mS_pj, lt_st, bq_s, bV_s, bI_s, bJ_s, bA_s, nz_0, nc_0, nz_1, nc_1, nz_2, nc_2, nz_3, nc_3, nz_4, nc_4, nz_5, nc_5, nz_6, nc_6, nz_7, nc_7, nz_8, nc_8, nz_9, nc_9, nz_10, nc_10, nz_11, nc_11, nz_12, nc_12, if_true, if_false, eq_self, true_and, and_true, false_or, or_false, true_or, or_true, false_and, and_false, not_true, not_false_eq_true, ne_eq, ite_self, ite_not, ↓reduceIte, n_101, n_107, n_11]
          · unfold shS
            rw [if_neg s3, if_pos s4, e2, nI_clamp (by omega), if_neg (fun hh => hst hh.2)]
            exact hH2
      · have p1 := pf 1 (by decide)
        have hH2 := HC.up hh (p := p) (v := 0)
        have h149 : am_cal (d + 5) 149 [.int (pF s p 1)] (mS I J) = some (some (.int (nI 0)), mS I J) := by
          rw [c_149, if_neg (fun h => hcp (Or.inl h)), if_neg (fun h => hcp (Or.inr (Or.inl h))), if_neg (fun h => hcp (Or.inr (Or.inr h)))]
        refine ⟨I, wJ J (g + 1) p (lN 0), fun _ _ => rfl, wJ_G1, ?_, ?_⟩
        rotate_left
        · rw [e_37_29]
          simp only [g_C hg, g_R0 hg, g_R1 hg, g_C1 hg, g_L1 hg, w_C hw, w_R0 hw, w_R1 hw, w_C1 hw, w_L1 hw, w_C2 hw, w_L2 hw, w_cp hw (show p < 12 by omega), w_rp hw (show p < 12 by omega), w_ce hw (show e < 18 by omega), w_re hw (show e < 18 by omega), i0c, i0z, i0l, j0c, j0z, j0l, ev, e31, v0, v1, p1, s4, h149, nI_add, nn_0_1, nn_0_2, nn_0_3, nn_0_4, nn_0_5, nn_0_6, nn_0_7, nn_0_8, nn_1_0, nn_1_2, nn_1_3, nn_1_4, nn_1_5, nn_1_6, nn_1_7, nn_1_8, nn_2_0, nn_2_1, nn_2_3, nn_2_4, nn_2_5, nn_2_6, nn_2_7, nn_2_8, nn_3_0, nn_3_1, nn_3_2, nn_3_4, nn_3_5, nn_3_6, nn_3_7, nn_3_8, nn_4_0, nn_4_1, nn_4_2, nn_4_3, nn_4_5, nn_4_6, nn_4_7, nn_4_8, nn_5_0, nn_5_1, nn_5_2, nn_5_3, nn_5_4, nn_5_6, nn_5_7, nn_5_8, nn_6_0, nn_6_1, nn_6_2, nn_6_3, nn_6_4, nn_6_5, nn_6_7, nn_6_8, nn_7_0, nn_7_1, nn_7_2, nn_7_3, nn_7_4, nn_7_5, nn_7_6, nn_7_8, nn_8_0, nn_8_1, nn_8_2, nn_8_3, nn_8_4, nn_8_5, nn_8_6, nn_8_7, nq_0, nq_1, nq_2, nq_3, nq_4, nq_5, nq_6, nq_7, nq_8, bq_s, mS_c, mS_l, mS_r, mS_i, mS_j, mS_pi, mS_pj, lt_st, bq_s, bV_s, bI_s, bJ_s, bA_s, nz_0, nc_0, nz_1, nc_1, nz_2, nc_2, nz_3, nc_3, nz_4, nc_4, nz_5, nc_5, nz_6, nc_6, nz_7, nc_7, nz_8, nc_8, nz_9, nc_9, nz_10, nc_10, nz_11, nc_11, nz_12, nc_12, if_true, if_false, eq_self, true_and, and_true, false_or, or_false, true_or, or_true, false_and, and_false, not_true, not_false_eq_true, ne_eq, ite_self, ite_not, ↓reduceIte, n_101, n_107, n_11]
        · unfold shS
          rw [if_neg s3, if_pos s4, if_neg (fun hh => hcp hh.1)]
          exact hH2
    · have h88 := k88 (d := d + 4) (J := J) (day := cF s c 3) hw hR hW he hp h1
      by_cases hm : mv s e p (cF s c 3)
      · have my := my_mv h1 hm
        have hcp := (my_yt hW he hp my).1
        have h0 : h p = 0 := i3 p hp (my_stt hW he hp my).2
        have hpt := my_part hW he hp my
        obtain ⟨q, hq, e2⟩ := WFcq hW hp hcp
        obtain ⟨k, hk3, e6⟩ : ∃ k, k ≤ 3 ∧ pF s p 6 = nI k := by
          rcases (hW.per hp).1 with ⟨h4, _⟩ | ⟨_, _, _, _, ⟨m, hm1, hm3, em⟩, _⟩ | ⟨h4, _⟩
          · rcases hcp with hc | hc | hc <;> rw [h4] at hc <;> exact absurd hc (by decide)
          · exact ⟨m, hm3, em⟩
          · rcases hcp with hc | hc | hc <;> rw [h4] at hc <;> exact absurd hc (by decide)
        have d4 : 4 ∣ h q := Nat.dvd_trans (by rw [hpt, Nat.pow_succ]; exact Nat.dvd_mul_left _ _) (i2 q)
        obtain ⟨I', J', a, b, cc, hr⟩ := k39 (d := d) hg hR hW hc he hp h1 hq e2 hk3 e6 hh i1 h0 d4
        refine ⟨I', J', a, b, ?_, ?_⟩
        · unfold shS
          rw [if_neg s3, if_neg s4, if_pos hm, e2, e6, nI_clamp (by omega), nI_clamp (by omega)]
          exact cc
        · rw [e_37_29]
          simp only [g_C hg, g_R0 hg, g_R1 hg, g_C1 hg, g_L1 hg, w_C hw, w_R0 hw, w_R1 hw, w_C1 hw, w_L1 hw, w_C2 hw, w_L2 hw, w_cp hw (show p < 12 by omega), w_rp hw (show p < 12 by omega), w_ce hw (show e < 18 by omega), w_re hw (show e < 18 by omega), w_cc hw (show c < 12 by omega), i0c, i0z, i0l, j0c, j0z, j0l, ev, e31, v0, v1, c3, s3, s4, h88, b2_t hm, hr, nI_add, nn_0_1, nn_0_2, nn_0_3, nn_0_4, nn_0_5, nn_0_6, nn_0_7, nn_0_8, nn_1_0, nn_1_2, nn_1_3, nn_1_4, nn_1_5, nn_1_6, nn_1_7, nn_1_8, nn_2_0, nn_2_1, nn_2_3, nn_2_4, nn_2_5, nn_2_6, nn_2_7, nn_2_8, nn_3_0, nn_3_1, nn_3_2, nn_3_4, nn_3_5, nn_3_6, nn_3_7, nn_3_8, nn_4_0, nn_4_1, nn_4_2, nn_4_3, nn_4_5, nn_4_6, nn_4_7, nn_4_8, nn_5_0, nn_5_1, nn_5_2, nn_5_3, nn_5_4, nn_5_6, nn_5_7, nn_5_8, nn_6_0, nn_6_1, nn_6_2, nn_6_3, nn_6_4, nn_6_5, nn_6_7, nn_6_8, nn_7_0, nn_7_1, nn_7_2, nn_7_3, nn_7_4, nn_7_5, nn_7_6, nn_7_8, nn_8_0, nn_8_1, nn_8_2, nn_8_3, nn_8_4, nn_8_5, nn_8_6, nn_8_7, nq_0, nq_1, nq_2, nq_3, nq_4, nq_5, nq_6, nq_7, nq_8, bq_s, mS_c, mS_l, mS_r, mS_i, mS_j, mS_pi, mS_pj, lt_st, bq_s, bV_s, bI_s, bJ_s, bA_s, nz_0, nc_0, nz_1, nc_1, nz_2, nc_2, nz_3, nc_3, nz_4, nc_4, nz_5, nc_5, nz_6, nc_6, nz_7, nc_7, nz_8, nc_8, nz_9, nc_9, nz_10, nc_10, nz_11, nc_11, nz_12, nc_12, if_true, if_false, eq_self, true_and, and_true, false_or, or_false, true_or, or_true, false_and, and_false, not_true, not_false_eq_true, ne_eq, ite_self, ite_not, ↓reduceIte, n_101, n_107, n_11]
      · refine ⟨I, J, fun _ _ => rfl, fun _ _ => rfl, ?_, ?_⟩
        · unfold shS
          rw [if_neg s3, if_neg s4, if_neg hm]
          exact hh
        · rw [e_37_29]
          simp only [g_C hg, g_R0 hg, g_R1 hg, g_C1 hg, g_L1 hg, w_C hw, w_R0 hw, w_R1 hw, w_C1 hw, w_L1 hw, w_C2 hw, w_L2 hw, w_cp hw (show p < 12 by omega), w_rp hw (show p < 12 by omega), w_ce hw (show e < 18 by omega), w_re hw (show e < 18 by omega), w_cc hw (show c < 12 by omega), i0c, i0z, i0l, j0c, j0z, j0l, ev, e31, v0, v1, c3, s3, s4, h88, b2_f hm, nI_add, nn_0_1, nn_0_2, nn_0_3, nn_0_4, nn_0_5, nn_0_6, nn_0_7, nn_0_8, nn_1_0, nn_1_2, nn_1_3, nn_1_4, nn_1_5, nn_1_6, nn_1_7, nn_1_8, nn_2_0, nn_2_1, nn_2_3, nn_2_4, nn_2_5, nn_2_6, nn_2_7, nn_2_8, nn_3_0, nn_3_1, nn_3_2, nn_3_4, nn_3_5, nn_3_6, nn_3_7, nn_3_8, nn_4_0, nn_4_1, nn_4_2, nn_4_3, nn_4_5, nn_4_6, nn_4_7, nn_4_8, nn_5_0, nn_5_1, nn_5_2, nn_5_3, nn_5_4, nn_5_6, nn_5_7, nn_5_8, nn_6_0, nn_6_1, nn_6_2, nn_6_3, nn_6_4, nn_6_5, nn_6_7, nn_6_8, nn_7_0, nn_7_1, nn_7_2, nn_7_3, nn_7_4, nn_7_5, nn_7_6, nn_7_8, nn_8_0, nn_8_1, nn_8_2, nn_8_3, nn_8_4, nn_8_5, nn_8_6, nn_8_7, nq_0, nq_1, nq_2, nq_3, nq_4, nq_5, nq_6, nq_7, nq_8, bq_s, mS_c, mS_l, mS_r, mS_i, mS_j, mS_pi, mS_pj, lt_st, bq_s, bV_s, bI_s, bJ_s, bA_s, nz_0, nc_0, nz_1, nc_1, nz_2, nc_2, nz_3, nc_3, nz_4, nc_4, nz_5, nc_5, nz_6, nc_6, nz_7, nc_7, nz_8, nc_8, nz_9, nc_9, nz_10, nc_10, nz_11, nc_11, nz_12, nc_12, if_true, if_false, eq_self, true_and, and_true, false_or, or_false, true_or, or_true, false_and, and_false, not_true, not_false_eq_true, ne_eq, ite_self, ite_not, ↓reduceIte, n_101, n_107, n_11]
end D2
