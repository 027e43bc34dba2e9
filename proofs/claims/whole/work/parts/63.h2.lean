/-! ===== copying a world ===== -/
section H2s
variable {I I' : mI} {J : mJ} {s s' : Rw} {w p q e c d k n g a b l m : Nat} {x y z u v sort key : Int32}
theorem cpA_12 : wI (wI (wI (wI (wI (wI (wI (wI (wI (wI (wI (wI I b 0 (I a 0)) b 1 (I a 1)) b 2 (I a 2)) b 3 (I a 3)) b 4 (I a 4)) b 5 (I a 5)) b 6 (I a 6)) b 7 (I a 7)) b 8 (I a 8)) b 9 (I a 9)) b 10 (I a 10)) b 11 (I a 11) = cpA I a b 12 := by
  funext c j
  unfold cpA wI
  by_cases ha : c = b
  · by_cases hj : j < 12
    · rcases (show j = 0 ∨ j = 1 ∨ j = 2 ∨ j = 3 ∨ j = 4 ∨ j = 5 ∨ j = 6 ∨ j = 7 ∨ j = 8 ∨ j = 9 ∨ j = 10 ∨ j = 11 by omega) with rfl | rfl | rfl | rfl | rfl | rfl | rfl | rfl | rfl | rfl | rfl | rfl <;> simp [ha]
    · have h : ∀ k, k < 12 → ¬ j = k := fun k hk => by omega
      simp [ha, hj, h]
  · simp [ha]
theorem k56 (ha : lyC a = 7) (hb : lyC b = 7) (hab : a ≠ b) (h9 : I a 9 = 0 ∨ I a 9 = 1) (h10 : I a 10 = 0 ∨ I a 10 = 1) (h11 : I a 11 = 0 ∨ I a 11 = 1) : am_cal (d + 1) 56 [.ref b, .ref a] (mS I J) = some (none, mS (cpA I a b 12) J) := by
  have r : ∀ (I1 : mI) (k : Nat) (v : Int32), wI I1 b k v a = I1 a := fun I1 k v => wI_F1 a hab
  rw [c_56 hb]
  simp only [ha, hb, r, h9, h10, h11, bq_s, mS_c, mS_l, mS_r, mS_i, mS_j, mS_pi, mS_pj, lt_st, bq_s, bV_s, bI_s, bJ_s, bA_s, nz_0, nc_0, nz_1, nc_1, nz_2, nc_2, nz_3, nc_3, nz_4, nc_4, nz_5, nc_5, nz_6, nc_6, nz_7, nc_7, nz_8, nc_8, nz_9, nc_9, nz_10, nc_10, nz_11, nc_11, nz_12, nc_12, if_true, if_false, eq_self, true_and, and_true, false_or, or_false, true_or, or_true, false_and, and_false, not_true, not_false_eq_true, ne_eq, ite_self, ite_not, ↓reduceIte, n_101, n_107, n_11]
  rw [cpA_12]
theorem clI_cp : clI I b (I a 0) (I a 1) (I a 2) (I a 3) (I a 4) = cpA I a b 5 := by
  funext c j
  unfold clI cpA wI
  by_cases ha : c = b
  · by_cases hj : j < 5
    · rcases (show j = 0 ∨ j = 1 ∨ j = 2 ∨ j = 3 ∨ j = 4 by omega) with rfl | rfl | rfl | rfl | rfl <;> simp [ha]
    · have h : ∀ k, k < 5 → ¬ j = k := fun k hk => by omega
      simp [ha, hj, h]
  · simp [ha]
theorem wdI_cp : wdI I b (I a 0) (I a 1) (I a 2) (I a 3) = cpA I a b 4 := by
  funext c j
  unfold wdI cpA wI
  by_cases ha : c = b
  · by_cases hj : j < 4
    · rcases (show j = 0 ∨ j = 1 ∨ j = 2 ∨ j = 3 by omega) with rfl | rfl | rfl | rfl <;> simp [ha]
    · have h : ∀ k, k < 4 → ¬ j = k := fun k hk => by omega
      simp [ha, hj, h]
  · simp [ha]
theorem k8c (hb : lyC b = 2) : am_cal (d + 1) 8 [.ref b, .int (I a 0), .int (I a 1), .int (I a 2)] (mS I J) = some (none, mS (cpA I a b 3) J) := by
  have e : wI (wI (wI I b 0 (I a 0)) b 1 (I a 1)) b 2 (I a 2) = cpA I a b 3 := by
    funext c j
    unfold cpA wI
    by_cases ha : c = b
    · by_cases hj : j < 3
      · rcases (show j = 0 ∨ j = 1 ∨ j = 2 by omega) with rfl | rfl | rfl <;> simp [ha]
      · have h : ∀ k, k < 3 → ¬ j = k := fun k hk => by omega
        simp [ha, hj, h]
    · simp [ha]
  rw [c_8 hb]
  simp only [hb, e, bq_s, mS_c, mS_l, mS_r, mS_i, mS_j, mS_pi, mS_pj, lt_st, bq_s, bV_s, bI_s, bJ_s, bA_s, nz_0, nc_0, nz_1, nc_1, nz_2, nc_2, nz_3, nc_3, nz_4, nc_4, nz_5, nc_5, nz_6, nc_6, nz_7, nc_7, nz_8, nc_8, nz_9, nc_9, nz_10, nc_10, nz_11, nc_11, nz_12, nc_12, if_true, if_false, eq_self, true_and, and_true, false_or, or_false, true_or, or_true, false_and, and_false, not_true, not_false_eq_true, ne_eq, ite_self, ite_not, ↓reduceIte, n_101, n_107, n_11]
/-- what of world v stands in world w already: heads, persons below a, events below b, claims below c, weddings below e -/
def CW (w v : Nat) (I I1 : mI) (na ne nc nw : Nat) : Prop := FW w I1 I ∧ (∀ f, 8 ≤ f → f < 15 → I1 w f = I v f) ∧ (∀ p, p < na → ∀ f, f < 12 → I1 (w + 13 + p) f = I (v + 13 + p) f) ∧ (∀ p, p < ne → ∀ f, f < 3 → I1 (w + 25 + p) f = I (v + 25 + p) f) ∧ (∀ p, p < nc → ∀ f, f < 5 → I1 (w + 43 + p) f = I (v + 43 + p) f) ∧ (∀ p, p < nw → ∀ f, f < 4 → I1 (w + 55 + p) f = I (v + 55 + p) f)
theorem b2_or (c : Prop) : b2 c = 0 ∨ b2 c = 1 := by
  by_cases h : c
  · rw [b2_t h]; exact Or.inr rfl
  · rw [b2_f h]; exact Or.inl rfl
variable {v : Nat}
/-- persons -/
theorem k64a (hw : isW w) (hv : isW v) (hwv : w + 63 ≤ v ∨ v + 63 ≤ w) (hR : Rep I v s) (hW : WF s) : ∀ n k I1, k + n = nP s → CW w v I I1 k 0 0 0 → ∃ I2, CW w v I I2 (nP s) 0 0 0 ∧ am_X (am_cal (d + 1)) 64 30 [.ref w, .ref v, .int (nI k), .null] [] (mS I1 J) = am_X (am_cal (d + 1)) 64 47 [.ref w, .ref v, .int (nI 0), .null] [] (mS I2 J) := by
  have h12 := hW.nP.1
  intro n
  induction n with
  | zero =>
    intro k I1 hk hC
    have hk' : k = nP s := by omega
    subst hk'
    have h9 : I1 w 9 = nI (nP s) := by rw [hC.2.1 9 (by decide) (by decide)]; exact hR.ppl.trans hW.nP.2
    refine ⟨I1, hC, ?_⟩
    rw [e_64_30]
    simp only [w_C hw, h9, n_lt (show nP s < 2 ^ 31 by omega) (show nP s < 2 ^ 31 by omega), Nat.lt_irrefl, bq_s, mS_c, mS_l, mS_r, mS_i, mS_j, mS_pi, mS_pj, lt_st, bq_s, bV_s, bI_s, bJ_s, bA_s, nz_0, nc_0, nz_1, nc_1, nz_2, nc_2, nz_3, nc_3, nz_4, nc_4, nz_5, nc_5, nz_6, nc_6, nz_7, nc_7, nz_8, nc_8, nz_9, nc_9, nz_10, nc_10, nz_11, nc_11, nz_12, nc_12, if_true, if_false, eq_self, true_and, and_true, false_or, or_false, true_or, or_true, false_and, and_false, not_true, not_false_eq_true, ne_eq, ite_self, ite_not, ↓reduceIte, n_101, n_107, n_11]
  | succ n ih =>
    intro k I1 hk hC
    have hkn : k < nP s := by omega
    have hk12 : k < 12 := by omega
    have i0c : (nI (k)).toNatClampNeg = k := nI_clamp (by omega)
    have i0z : (nI (k) < 0) = False := n_ge0 (by omega)
    have i0l : (12 ≤ k) = False := n_lef (by omega)
    have h9 : I1 w 9 = nI (nP s) := by rw [hC.2.1 9 (by decide) (by decide)]; exact hR.ppl.trans hW.nP.2
    have hF := hC.1 (v + 13 + k) (by omega)
    have h56 := k56 (d := d) (I := I1) (J := J) (a := v + 13 + k) (b := w + 13 + k) (w_cp hv hk12) (w_cp hw hk12) (by omega)
      (by rw [hF, hR.lv hkn]; rcases (hW.per hkn).2.2.2.2.1 with h | h <;> rw [h]; exact Or.inl rfl; exact Or.inr rfl)
      (by rw [hF, hR.vd hkn]; exact b2_or _) (by rw [hF, hR.rs hkn]; exact b2_or _)
    have hC2 : CW w v I (cpA I1 (v + 13 + k) (w + 13 + k) 12) (k + 1) 0 0 0 := by
      refine ⟨fun a ha => by rw [cpA_n (by omega)]; exact hC.1 a ha, fun f h1 h2 => by rw [cpA_n (by omega)]; exact hC.2.1 f h1 h2, fun p hp f hf => ?_, fun p hp => absurd hp (by omega), fun p hp => absurd hp (by omega), fun p hp => absurd hp (by omega)⟩
      by_cases hpk : p = k
      · subst hpk
        rw [cpA_e hf, hF]
      · rw [cpA_n (by omega)]; exact hC.2.2.1 p (by omega) f hf
    obtain ⟨I2, a2, r2⟩ := ih (k + 1) _ (by omega) hC2
    refine ⟨I2, a2, ?_⟩
    rw [e_64_30]
    simp only [w_C hw, w_C hv, w_R0 hw, w_R0 hv, w_C1 hw, w_C1 hv, w_L1 hw, w_L1 hv, w_rp hw hk12, w_rp hv hk12, h9, n_lt (show k < 2 ^ 31 by omega) (show nP s < 2 ^ 31 by omega), eq_true hkn, i0c, i0z, i0l, h56, nI_add, show (103 ≤ 110 ∧ 110 < 200) = True from eq_true (by decide), bq_s, mS_c, mS_l, mS_r, mS_i, mS_j, mS_pi, mS_pj, lt_st, bq_s, bV_s, bI_s, bJ_s, bA_s, nz_0, nc_0, nz_1, nc_1, nz_2, nc_2, nz_3, nc_3, nz_4, nc_4, nz_5, nc_5, nz_6, nc_6, nz_7, nc_7, nz_8, nc_8, nz_9, nc_9, nz_10, nc_10, nz_11, nc_11, nz_12, nc_12, if_true, if_false, eq_self, true_and, and_true, false_or, or_false, true_or, or_true, false_and, and_false, not_true, not_false_eq_true, ne_eq, ite_self, ite_not, ↓reduceIte, n_101, n_107, n_11]
    exact r2
/-- events -/
theorem k64b (hw : isW w) (hv : isW v) (hwv : w + 63 ≤ v ∨ v + 63 ≤ w) (hR : Rep I v s) (hW : WF s) : ∀ n k I1, k + n = nE s → CW w v I I1 (nP s) k 0 0 → ∃ I2, CW w v I I2 (nP s) (nE s) 0 0 ∧ am_X (am_cal (d + 1)) 64 47 [.ref w, .ref v, .int (nI k), .null] [] (mS I1 J) = am_X (am_cal (d + 1)) 64 71 [.ref w, .ref v, .int (nI 0), .null] [] (mS I2 J) := by
  have h12 := hW.nP.1
  have h18 := hW.nE.1
  intro n
  induction n with
  | zero =>
    intro k I1 hk hC
    have hk' : k = nE s := by omega
    subst hk'
    have h9 : I1 w 10 = nI (nE s) := by rw [hC.2.1 10 (by decide) (by decide)]; exact hR.evs.trans hW.nE.2
    refine ⟨I1, hC, ?_⟩
    rw [e_64_47]
    simp only [w_C hw, h9, n_lt (show nE s < 2 ^ 31 by omega) (show nE s < 2 ^ 31 by omega), Nat.lt_irrefl, bq_s, mS_c, mS_l, mS_r, mS_i, mS_j, mS_pi, mS_pj, lt_st, bq_s, bV_s, bI_s, bJ_s, bA_s, nz_0, nc_0, nz_1, nc_1, nz_2, nc_2, nz_3, nc_3, nz_4, nc_4, nz_5, nc_5, nz_6, nc_6, nz_7, nc_7, nz_8, nc_8, nz_9, nc_9, nz_10, nc_10, nz_11, nc_11, nz_12, nc_12, if_true, if_false, eq_self, true_and, and_true, false_or, or_false, true_or, or_true, false_and, and_false, not_true, not_false_eq_true, ne_eq, ite_self, ite_not, ↓reduceIte, n_101, n_107, n_11]
  | succ n ih =>
    intro k I1 hk hC
    have hkn : k < nE s := by omega
    have hk12 : k < 18 := by omega
    have i0c : (nI (k)).toNatClampNeg = k := nI_clamp (by omega)
    have i0z : (nI (k) < 0) = False := n_ge0 (by omega)
    have i0l : (18 ≤ k) = False := n_lef (by omega)
    have h9 : I1 w 10 = nI (nE s) := by rw [hC.2.1 10 (by decide) (by decide)]; exact hR.evs.trans hW.nE.2
    have hF := hC.1 (v + 25 + k) (by omega)
    have h8 := k8c (d := d) (I := I1) (J := J) (a := v + 25 + k) (b := w + 25 + k) (w_ce hw hk12)
    have hC2 : CW w v I (cpA I1 (v + 25 + k) (w + 25 + k) 3) (nP s) (k + 1) 0 0 := by
      refine ⟨fun a ha => by rw [cpA_n (by omega)]; exact hC.1 a ha, fun f h1 h2 => by rw [cpA_n (by omega)]; exact hC.2.1 f h1 h2, fun p hp f hf => by rw [cpA_n (by omega)]; exact hC.2.2.1 p hp f hf, fun p hp f hf => ?_, fun p hp => absurd hp (by omega), fun p hp => absurd hp (by omega)⟩
      by_cases hpk : p = k
      · subst hpk
        rw [cpA_e hf, hF]
      · rw [cpA_n (by omega)]; exact hC.2.2.2.1 p (by omega) f hf
    obtain ⟨I2, a2, r2⟩ := ih (k + 1) _ (by omega) hC2
    refine ⟨I2, a2, ?_⟩
    rw [e_64_47]
    simp only [w_C hw, w_C hv, w_R1 hw, w_R1 hv, w_C2 hw, w_C2 hv, w_L2 hw, w_L2 hv, w_re hw hk12, w_re hv hk12, w_ce hv hk12, h9, n_lt (show k < 2 ^ 31 by omega) (show nE s < 2 ^ 31 by omega), eq_true hkn, i0c, i0z, i0l, h8, nI_add, show (103 ≤ 105 ∧ 105 < 200) = True from eq_true (by decide), bq_s, mS_c, mS_l, mS_r, mS_i, mS_j, mS_pi, mS_pj, lt_st, bq_s, bV_s, bI_s, bJ_s, bA_s, nz_0, nc_0, nz_1, nc_1, nz_2, nc_2, nz_3, nc_3, nz_4, nc_4, nz_5, nc_5, nz_6, nc_6, nz_7, nc_7, nz_8, nc_8, nz_9, nc_9, nz_10, nc_10, nz_11, nc_11, nz_12, nc_12, if_true, if_false, eq_self, true_and, and_true, false_or, or_false, true_or, or_true, false_and, and_false, not_true, not_false_eq_true, ne_eq, ite_self, ite_not, ↓reduceIte, n_101, n_107, n_11]
    exact r2
/-- claims -/
theorem k64c (hw : isW w) (hv : isW v) (hwv : w + 63 ≤ v ∨ v + 63 ≤ w) (hR : Rep I v s) (hW : WF s) : ∀ n k I1, k + n = nC s → CW w v I I1 (nP s) (nE s) k 0 → ∃ I2, CW w v I I2 (nP s) (nE s) (nC s) 0 ∧ am_X (am_cal (d + 1)) 64 71 [.ref w, .ref v, .int (nI k), .null] [] (mS I1 J) = am_X (am_cal (d + 1)) 64 99 [.ref w, .ref v, .int (nI 0), .null] [] (mS I2 J) := by
  have h12 := hW.nP.1
  have h18 := hW.nE.1
  have hc12 := hW.nC.1
  intro n
  induction n with
  | zero =>
    intro k I1 hk hC
    have hk' : k = nC s := by omega
    subst hk'
    have h9 : I1 w 11 = nI (nC s) := by rw [hC.2.1 11 (by decide) (by decide)]; exact hR.cls.trans hW.nC.2
    refine ⟨I1, hC, ?_⟩
    rw [e_64_71]
    simp only [w_C hw, h9, n_lt (show nC s < 2 ^ 31 by omega) (show nC s < 2 ^ 31 by omega), Nat.lt_irrefl, bq_s, mS_c, mS_l, mS_r, mS_i, mS_j, mS_pi, mS_pj, lt_st, bq_s, bV_s, bI_s, bJ_s, bA_s, nz_0, nc_0, nz_1, nc_1, nz_2, nc_2, nz_3, nc_3, nz_4, nc_4, nz_5, nc_5, nz_6, nc_6, nz_7, nc_7, nz_8, nc_8, nz_9, nc_9, nz_10, nc_10, nz_11, nc_11, nz_12, nc_12, if_true, if_false, eq_self, true_and, and_true, false_or, or_false, true_or, or_true, false_and, and_false, not_true, not_false_eq_true, ne_eq, ite_self, ite_not, ↓reduceIte, n_101, n_107, n_11]
  | succ n ih =>
    intro k I1 hk hC
    have hkn : k < nC s := by omega
    have hk12 : k < 12 := by omega
    have i0c : (nI (k)).toNatClampNeg = k := nI_clamp (by omega)
    have i0z : (nI (k) < 0) = False := n_ge0 (by omega)
    have i0l : (12 ≤ k) = False := n_lef (by omega)
    have h9 : I1 w 11 = nI (nC s) := by rw [hC.2.1 11 (by decide) (by decide)]; exact hR.cls.trans hW.nC.2
    have hF := hC.1 (v + 43 + k) (by omega)
    have h8 := k6 (d := d) (I := I1) (J := J) (c := w + 43 + k) (x := I1 (v + 43 + k) 0) (y := I1 (v + 43 + k) 1) (z := I1 (v + 43 + k) 2) (u := I1 (v + 43 + k) 3) (v := I1 (v + 43 + k) 4) (w_cc hw hk12)
    rw [clI_cp] at h8
    have hC2 : CW w v I (cpA I1 (v + 43 + k) (w + 43 + k) 5) (nP s) (nE s) (k + 1) 0 := by
      refine ⟨fun a ha => by rw [cpA_n (by omega)]; exact hC.1 a ha, fun f h1 h2 => by rw [cpA_n (by omega)]; exact hC.2.1 f h1 h2, fun p hp f hf => by rw [cpA_n (by omega)]; exact hC.2.2.1 p hp f hf, fun p hp f hf => by rw [cpA_n (by omega)]; exact hC.2.2.2.1 p hp f hf, fun p hp f hf => ?_, fun p hp => absurd hp (by omega)⟩
      by_cases hpk : p = k
      · subst hpk
        rw [cpA_e hf, hF]
      · rw [cpA_n (by omega)]; exact hC.2.2.2.2.1 p (by omega) f hf
    obtain ⟨I2, a2, r2⟩ := ih (k + 1) _ (by omega) hC2
    refine ⟨I2, a2, ?_⟩
    rw [e_64_71]
    simp only [w_C hw, w_C hv, w_R2 hw, w_R2 hv, w_C3 hw, w_C3 hv, w_L3 hw, w_L3 hv, w_rc hw hk12, w_rc hv hk12, w_cc hv hk12, h9, n_lt (show k < 2 ^ 31 by omega) (show nC s < 2 ^ 31 by omega), eq_true hkn, i0c, i0z, i0l, h8, nI_add, show (103 ≤ 104 ∧ 104 < 200) = True from eq_true (by decide), bq_s, mS_c, mS_l, mS_r, mS_i, mS_j, mS_pi, mS_pj, lt_st, bq_s, bV_s, bI_s, bJ_s, bA_s, nz_0, nc_0, nz_1, nc_1, nz_2, nc_2, nz_3, nc_3, nz_4, nc_4, nz_5, nc_5, nz_6, nc_6, nz_7, nc_7, nz_8, nc_8, nz_9, nc_9, nz_10, nc_10, nz_11, nc_11, nz_12, nc_12, if_true, if_false, eq_self, true_and, and_true, false_or, or_false, true_or, or_true, false_and, and_false, not_true, not_false_eq_true, ne_eq, ite_self, ite_not, ↓reduceIte, n_101, n_107, n_11]
    exact r2
/-- weddings, deeds, the law -/
theorem k64d (hw : isW w) (hv : isW v) (hwv : w + 63 ≤ v ∨ v + 63 ≤ w) (hR : Rep I v s) (hW : WF s) : ∀ n k I1, k + n = nW s → CW w v I I1 (nP s) (nE s) (nC s) k → ∃ I2, FW w I2 I ∧ Rep I2 w s ∧ am_X (am_cal (d + 1)) 64 99 [.ref w, .ref v, .int (nI k), .null] [] (mS I1 J) = some (none, mS I2 J) := by
  have h12 := hW.nP.1
  have h18 := hW.nE.1
  have hc12 := hW.nC.1
  have h8 := hW.nW.1
  have h10 := hW.nD.1
  intro n
  induction n with
  | zero =>
    intro k I1 hk hC
    have hk' : k = nW s := by omega
    subst hk'
    obtain ⟨g1, g2, g3, g4, g5, g6⟩ := hC
    have h9 : I1 w 12 = nI (nW s) := by rw [g2 12 (by decide) (by decide)]; exact hR.wds.trans hW.nW.2
    have h13 : I1 w 13 = nI (nD s) := by rw [g2 13 (by decide) (by decide)]; exact hR.dds.trans hW.nD.2
    generalize hI2 : cpA I1 (v + 5) (w + 5) (nD s) = I2
    have o2 : ∀ a, a ≠ w + 5 → I2 a = I1 a := fun a ha => by rw [← hI2]; exact cpA_n ha
    generalize hI3 : cpA I2 (v + 6) (w + 6) (nD s) = I3
    have o3 : ∀ a, a ≠ w + 6 → I3 a = I2 a := fun a ha => by rw [← hI3]; exact cpA_n ha
    have hL3 : RepL I3 (v + 7) s := hR.L.fr fun a h1 h2 => by rw [o3 a (by omega), o2 a (by omega), g1 a (by omega)]
    obtain ⟨I4, a1, a2, a3⟩ := k14 (d := d) (J := J) hw.l hv.l (by omega) hL3 hW.nL.1 hW.nL.2
    have o4 : ∀ a, a ≠ w + 5 → a ≠ w + 6 → (a < w + 7 ∨ w + 12 ≤ a) → I4 a = I1 a := fun a h1 h2 h3 => by rw [a1 a (by omega), o3 a h2, o2 a h1]
    refine ⟨I4, fun a ha => by rw [o4 a (by omega) (by omega) (by omega)]; exact g1 a ha, ?_, ?_⟩
    · have ow := o4 w (by omega) (by omega) (by omega)
      refine ⟨⟨?_, ?_, ?_, ?_, ?_, ?_, ?_⟩, fun p hp => ?_, fun e he f hf => ?_, fun c hc f hf => ?_, fun k hk f hf => ?_, fun d hd => ⟨?_, ?_⟩, a2⟩
      · rw [ow, g2 8 (by decide) (by decide)]; exact hR.day
      · rw [ow, g2 9 (by decide) (by decide)]; exact hR.ppl
      · rw [ow, g2 10 (by decide) (by decide)]; exact hR.evs
      · rw [ow, g2 11 (by decide) (by decide)]; exact hR.cls
      · rw [ow, g2 13 (by decide) (by decide)]; exact hR.dds
      · rw [ow, g2 12 (by decide) (by decide)]; exact hR.wds
      · rw [ow, g2 14 (by decide) (by decide)]; exact hR.zed
      · have op := o4 (w + 13 + p) (by omega) (by omega) (by omega)
        obtain ⟨r1, r2, r3, r4, r5, r6⟩ := hR.2.1 p hp
        exact ⟨fun f hf => by rw [op, g3 p hp f (by omega)]; exact r1 f hf, by rw [op, g3 p hp 9 (by decide)]; exact r2, by rw [op, g3 p hp 10 (by decide)]; exact r3, by rw [op, g3 p hp 11 (by decide)]; exact r4, fun e he h => by rw [op, g3 p hp 8 (by decide)]; exact r5 e he h, fun h => by rw [op, g3 p hp 8 (by decide)]; exact r6 h⟩
      · rw [o4 _ (by omega) (by omega) (by omega), g4 e he f hf]; exact hR.eF he hf
      · rw [o4 _ (by omega) (by omega) (by omega), g5 c hc f hf]; exact hR.cF hc hf
      · rw [o4 _ (by omega) (by omega) (by omega), g6 k hk f hf]; exact hR.wF hk hf
      · rw [a1 _ (by omega), o3 _ (by omega), ← hI2, cpA_e hd, g1 _ (by omega)]; exact hR.d0 hd
      · rw [a1 _ (by omega), ← hI3, cpA_e hd, o2 _ (by omega), g1 _ (by omega)]; exact hR.d1 hd
    · have hz : (nI (nD s) < 0) = False := n_ge0 (by omega)
      have hc : (nI (nD s)).toNatClampNeg = nD s := nI_clamp (by omega)
      have z0 : (nI 0 < 0) = False := n_ge0 (by decide)
      have q1 : (10 < 0 + nD s) = False := eq_false (by omega)
      have i13 : I2 w 13 = nI (nD s) := by rw [o2 w (by omega), h13]
      rw [e_64_99]
      simp only [w_C hw, w_C hv, w_R4 hw, w_R4 hv, w_R5 hw, w_R5 hv, w_R6 hw, w_R6 hv, w_C5 hw, w_C5 hv, w_L5 hw, w_L5 hv, w_C6 hw, w_C6 hv, w_L6 hw, w_L6 hv, h9, h13, n_lt (show nW s < 2 ^ 31 by omega) (show nW s < 2 ^ 31 by omega), Nat.lt_irrefl, hz, hc, z0, q1, mS_cp, up_cpA, hI2, i13, hI3, a3, show (0 ≤ 8) = True from eq_true (by decide), bq_s, mS_c, mS_l, mS_r, mS_i, mS_j, mS_pi, mS_pj, lt_st, bq_s, bV_s, bI_s, bJ_s, bA_s, nz_0, nc_0, nz_1, nc_1, nz_2, nc_2, nz_3, nc_3, nz_4, nc_4, nz_5, nc_5, nz_6, nc_6, nz_7, nc_7, nz_8, nc_8, nz_9, nc_9, nz_10, nc_10, nz_11, nc_11, nz_12, nc_12, if_true, if_false, eq_self, true_and, and_true, false_or, or_false, true_or, or_true, false_and, and_false, not_true, not_false_eq_true, ne_eq, ite_self, ite_not, ↓reduceIte, n_101, n_107, n_11]
  | succ n ih =>
    intro k I1 hk hC
    have hkn : k < nW s := by omega
    have hk12 : k < 8 := by omega
    have i0c : (nI (k)).toNatClampNeg = k := nI_clamp (by omega)
    have i0z : (nI (k) < 0) = False := n_ge0 (by omega)
    have i0l : (8 ≤ k) = False := n_lef (by omega)
    have h9 : I1 w 12 = nI (nW s) := by rw [hC.2.1 12 (by decide) (by decide)]; exact hR.wds.trans hW.nW.2
    have hF := hC.1 (v + 55 + k) (by omega)
    have h8 := k62 (d := d) (I := I1) (J := J) (c := w + 55 + k) (x := I1 (v + 55 + k) 0) (y := I1 (v + 55 + k) 1) (z := I1 (v + 55 + k) 2) (u := I1 (v + 55 + k) 3) (w_cd hw hk12)
    rw [wdI_cp] at h8
    have hC2 : CW w v I (cpA I1 (v + 55 + k) (w + 55 + k) 4) (nP s) (nE s) (nC s) (k + 1) := by
      refine ⟨fun a ha => by rw [cpA_n (by omega)]; exact hC.1 a ha, fun f h1 h2 => by rw [cpA_n (by omega)]; exact hC.2.1 f h1 h2, fun p hp f hf => by rw [cpA_n (by omega)]; exact hC.2.2.1 p hp f hf, fun p hp f hf => by rw [cpA_n (by omega)]; exact hC.2.2.2.1 p hp f hf, fun p hp f hf => by rw [cpA_n (by omega)]; exact hC.2.2.2.2.1 p hp f hf, fun p hp f hf => ?_⟩
      by_cases hpk : p = k
      · subst hpk
        rw [cpA_e hf, hF]
      · rw [cpA_n (by omega)]; exact hC.2.2.2.2.2 p (by omega) f hf
    obtain ⟨I2, a2, r1, r2⟩ := ih (k + 1) _ (by omega) hC2
    refine ⟨I2, a2, r1, ?_⟩
    rw [e_64_99]
    simp only [w_C hw, w_C hv, w_R3 hw, w_R3 hv, w_C4 hw, w_C4 hv, w_L4 hw, w_L4 hv, w_rd hw hk12, w_rd hv hk12, w_cd hv hk12, h9, n_lt (show k < 2 ^ 31 by omega) (show nW s < 2 ^ 31 by omega), eq_true hkn, i0c, i0z, i0l, h8, nI_add, show (103 ≤ 112 ∧ 112 < 200) = True from eq_true (by decide), bq_s, mS_c, mS_l, mS_r, mS_i, mS_j, mS_pi, mS_pj, lt_st, bq_s, bV_s, bI_s, bJ_s, bA_s, nz_0, nc_0, nz_1, nc_1, nz_2, nc_2, nz_3, nc_3, nz_4, nc_4, nz_5, nc_5, nz_6, nc_6, nz_7, nc_7, nz_8, nc_8, nz_9, nc_9, nz_10, nc_10, nz_11, nc_11, nz_12, nc_12, if_true, if_false, eq_self, true_and, and_true, false_or, or_false, true_or, or_true, false_and, and_false, not_true, not_false_eq_true, ne_eq, ite_self, ite_not, ↓reduceIte, n_101, n_107, n_11]
    exact r2
/-- world v copied to world w -/
theorem k64 (hw : isW w) (hv : isW v) (hwv : w ≠ v) (hR : Rep I v s) (hW : WF s) : ∃ I2, FW w I2 I ∧ Rep I2 w s ∧ am_cal (d + 2) 64 [.ref w, .ref v] (mS I J) = some (none, mS I2 J) := by
  have hwv : w + 63 ≤ v ∨ v + 63 ≤ w := by
    rcases hw with rfl | rfl | rfl <;> rcases hv with rfl | rfl | rfl <;> omega
  have r : ∀ (I1 : mI) (k : Nat) (x : Int32), wI I1 w k x v = I1 v := fun I1 k x => wI_F1 v (by omega)
  obtain ⟨I0, hI0⟩ : ∃ I0, I0 = wI (wI (wI (wI (wI (wI (wI I w 8 (I v 8)) w 9 (I v 9)) w 10 (I v 10)) w 11 (I v 11)) w 12 (I v 12)) w 13 (I v 13)) w 14 (I v 14) := ⟨_, rfl⟩
  have hC0 : CW w v I I0 0 0 0 0 := by
    refine ⟨fun a ha => ?_, fun f h1 h2 => ?_, fun p hp => absurd hp (by omega), fun p hp => absurd hp (by omega), fun p hp => absurd hp (by omega), fun p hp => absurd hp (by omega)⟩
    · have hne : a ≠ w := by omega
      rw [hI0, wI_F1 a hne, wI_F1 a hne, wI_F1 a hne, wI_F1 a hne, wI_F1 a hne, wI_F1 a hne, wI_F1 a hne]
    · rw [hI0]
      unfold wI
      rcases (show f = 8 ∨ f = 9 ∨ f = 10 ∨ f = 11 ∨ f = 12 ∨ f = 13 ∨ f = 14 by omega) with rfl | rfl | rfl | rfl | rfl | rfl | rfl <;> simp
  obtain ⟨Ia, ca, ra⟩ := k64a (d := d) (J := J) hw hv hwv hR hW (nP s) 0 I0 (by omega) hC0
  obtain ⟨Ib, cb, rb⟩ := k64b (d := d) (J := J) hw hv hwv hR hW (nE s) 0 Ia (by omega) ca
  obtain ⟨Ic, cc, rc⟩ := k64c (d := d) (J := J) hw hv hwv hR hW (nC s) 0 Ib (by omega) cb
  obtain ⟨Id, cd, rR, rd⟩ := k64d (d := d) (J := J) hw hv hwv hR hW (nW s) 0 Ic (by omega) cc
  refine ⟨Id, cd, rR, ?_⟩
  rw [← rd, ← rc, ← rb, ← ra, c_64 (w_C hw), hI0]
  simp only [w_C hw, w_C hv, r, bq_s, mS_c, mS_l, mS_r, mS_i, mS_j, mS_pi, mS_pj, lt_st, bq_s, bV_s, bI_s, bJ_s, bA_s, nz_0, nc_0, nz_1, nc_1, nz_2, nc_2, nz_3, nc_3, nz_4, nc_4, nz_5, nc_5, nz_6, nc_6, nz_7, nc_7, nz_8, nc_8, nz_9, nc_9, nz_10, nc_10, nz_11, nc_11, nz_12, nc_12, if_true, if_false, eq_self, true_and, and_true, false_or, or_false, true_or, or_true, false_and, and_false, not_true, not_false_eq_true, ne_eq, ite_self, ite_not, ↓reduceIte, n_101, n_107, n_11]
end H2s
