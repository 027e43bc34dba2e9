/-! ===== the model's shares by its events ===== -/
section D5
variable {I : mI} {J : mJ} {w p q e c d l b g r k : Nat} {s : Rw} {x y key day : Int32} {h : Nat → Nat}
theorem m198c (hW : WF (I 230)) (he : e < nE (I 230)) (hs : eF (I 230) e 0 = nI 1 ∨ eF (I 230) e 0 = nI 2) (hp : p < nP (I 230)) (hep : eF (I 230) e 1 = nI p) (hc : c < 12) : ∃ I', F2 236 237 I' I ∧ am_cal (d + 4) 198 [.ref 229, .int key, .int (nI e), .int (nI c)] (mS I J) = some (some (.int (onE (I 230) key e p (cF (I 230) c 2) (nI c))), mS I' J) := by
  have n1 := hW.nP.1
  have n2 := hW.nE.1
  have hep : I 230 (130 + 3 * e + 1) = nI p := hep
  have a0 : nI 130 + nI 3 * nI e = nI (130 + 3 * e) := by rw [pk_mul, nI_add]
  have a1 : nI (130 + 3 * e) + nI 1 = nI (130 + 3 * e + 1) := nI_add _ _
  have a2 : nI (130 + 3 * e) + nI 2 = nI (130 + 3 * e + 2) := nI_add _ _
  have i0c : (nI (130 + 3 * e)).toNatClampNeg = 130 + 3 * e := nI_clamp (by omega)
  have i0z : (nI (130 + 3 * e) < 0) = False := n_ge0 (by omega)
  have i0l : (546 ≤ 130 + 3 * e) = False := n_lef (by omega)
  have i1c : (nI (130 + 3 * e + 1)).toNatClampNeg = 130 + 3 * e + 1 := nI_clamp (by omega)
  have i1z : (nI (130 + 3 * e + 1) < 0) = False := n_ge0 (by omega)
  have i1l : (546 ≤ 130 + 3 * e + 1) = False := n_lef (by omega)
  have i2c : (nI (130 + 3 * e + 2)).toNatClampNeg = 130 + 3 * e + 2 := nI_clamp (by omega)
  have i2z : (nI (130 + 3 * e + 2) < 0) = False := n_ge0 (by omega)
  have i2l : (546 ≤ 130 + 3 * e + 2) = False := n_lef (by omega)
  have fr : ∀ {I1 : mI}, F1 236 I1 I → ∀ {f : Nat}, f < 10 → ∀ d, am_cal (d + 1) 152 [.ref 229, .int (nI p), .int (nI f)] (mS I1 J) = some (some (.int (pF (I 230) p f)), mS I1 J) := fun h1 _ hf d => by
    rw [m152 (by omega) hf, h1 230 (by decide)]
  have m1 : (nI c < 0) = False := n_ge0 (by omega)
  have cc0 : nI 184 + nI 5 * nI c = nI (184 + 5 * c) := by rw [pk_mul, nI_add]
  have hcf : I 230 (184 + 5 * c + 2) = cF (I 230) c 2 := rfl
  have cc1 : nI (184 + 5 * c) + nI 2 = nI (184 + 5 * c + 2) := nI_add _ _
  have k0c : (nI (184 + 5 * c + 2)).toNatClampNeg = 184 + 5 * c + 2 := nI_clamp (by omega)
  have k0z : (nI (184 + 5 * c + 2) < 0) = False := n_ge0 (by omega)
  have k0l : (546 ≤ 184 + 5 * c + 2) = False := n_lef (by omega)
  have z6 : ∀ k, k < 6 → (6 ≤ k) = False := fun k hk => n_lef hk
  have fin : ∀ (I1 : mI) (x4 : Int32), I1 = wI I 236 0 (I 230 (130 + 3 * e + 2)) → (x4 = nI 1 ∨ x4 = nI 2) → ∃ I', F2 236 237 I' I ∧ am_X (am_cal (d + 3)) 198 56 [.ref 229, .int key, .null, .int (nI c), .int x4, .int (nI p), .int (nI 1)] [.int (nI p), .int (nI 1), .ref 236] (mS I1 J) = some (some (.int (onE (I 230) key e p (cF (I 230) c 2) (nI c))), mS I' J) := by
    intro I1 x4 h1 hx4
    subst h1
    obtain ⟨I', hF, hr⟩ := m197f (d := d) (J := J) (key := key) hW F1_6 (fct_6 (I := I) (q := 236) (a := I 230 (130 + 3 * e + 2)) (b := nI p) (c := pF (I 230) p 4 - pF (I 230) p 5) (d := pF (I 230) p 1) (e := cF (I 230) c 2) (g := nI c))
    refine ⟨I', hF, ?_⟩
    have x4n : (x4 = nI 4) = False := eq_false (by rcases hx4 with rfl | rfl <;> decide)
    have o1 : (nI 1 = 0) = False := eq_false (by decide)
    have f1 : F1 236 (wI (wI I 236 0 (I 230 (130 + 3 * e + 2))) 236 1 (nI p)) I := fun a ha => by rw [wI_F1 a ha, wI_F1 a ha]
    have f2 : ∀ v, F1 236 (wI (wI (wI I 236 0 (I 230 (130 + 3 * e + 2))) 236 1 (nI p)) 236 2 v) I := fun v a ha => by rw [wI_F1 a ha, f1 a ha]
    rw [e_198_56]
    simp only [lc_229, lr_229_14, lc_236, ll_236, bq_s, mS_c, mS_l, mS_r, mS_i, mS_j, mS_pi, mS_pj, lt_st, bq_s, bV_s, bI_s, bJ_s, bA_s, nz_0, nc_0, nz_1, nc_1, nz_2, nc_2, nz_3, nc_3, nz_4, nc_4, nz_5, nc_5, nz_6, nc_6, nz_7, nc_7, nz_8, nc_8, nz_9, nc_9, nz_10, nc_10, nz_11, nc_11, nz_12, nc_12, if_true, if_false, eq_self, true_and, and_true, false_or, or_false, true_or, or_true, false_and, and_false, not_true, not_false_eq_true, ne_eq, ite_self, ite_not, ↓reduceIte, z6 1 (by decide), o1, fr f1 (show 4 < 10 by decide), fr f1 (show 5 < 10 by decide)]
    rw [e_198_73]
    simp only [lc_229, lr_229_14, lc_236, ll_236, bq_s, mS_c, mS_l, mS_r, mS_i, mS_j, mS_pi, mS_pj, lt_st, bq_s, bV_s, bI_s, bJ_s, bA_s, nz_0, nc_0, nz_1, nc_1, nz_2, nc_2, nz_3, nc_3, nz_4, nc_4, nz_5, nc_5, nz_6, nc_6, nz_7, nc_7, nz_8, nc_8, nz_9, nc_9, nz_10, nc_10, nz_11, nc_11, nz_12, nc_12, if_true, if_false, eq_self, true_and, and_true, false_or, or_false, true_or, or_true, false_and, and_false, not_true, not_false_eq_true, ne_eq, ite_self, ite_not, ↓reduceIte, z6 2 (by decide), x4n, fr (f2 _) (show 1 < 10 by decide)]
    have f4 : ∀ u v, F1 236 (wI (wI (wI (wI I 236 0 (I 230 (130 + 3 * e + 2))) 236 1 (nI p)) 236 2 u) 236 3 v) I := fun u v a ha => by rw [wI_F1 a ha, f2 _ a ha]
    rw [e_198_86]
    simp only [lr_229_14, lc_236, ll_236, z6 3 (by decide), m1, cc0, cc1, k0c, k0z, k0l, hcf, f4 _ _ 230 (show 230 ≠ 236 by decide), lc_229, lr_229_0, lc_230, ll_230, bq_s, mS_c, mS_l, mS_r, mS_i, mS_j, mS_pi, mS_pj, lt_st, bq_s, bV_s, bI_s, bJ_s, bA_s, nz_0, nc_0, nz_1, nc_1, nz_2, nc_2, nz_3, nc_3, nz_4, nc_4, nz_5, nc_5, nz_6, nc_6, nz_7, nc_7, nz_8, nc_8, nz_9, nc_9, nz_10, nc_10, nz_11, nc_11, nz_12, nc_12, if_true, if_false, eq_self, true_and, and_true, false_or, or_false, true_or, or_true, false_and, and_false, not_true, not_false_eq_true, ne_eq, ite_self, ite_not, ↓reduceIte]
    rw [e_198_104]
    simp only [lc_229, lr_229_14, lc_236, ll_236, bq_s, mS_c, mS_l, mS_r, mS_i, mS_j, mS_pi, mS_pj, lt_st, bq_s, bV_s, bI_s, bJ_s, bA_s, nz_0, nc_0, nz_1, nc_1, nz_2, nc_2, nz_3, nc_3, nz_4, nc_4, nz_5, nc_5, nz_6, nc_6, nz_7, nc_7, nz_8, nc_8, nz_9, nc_9, nz_10, nc_10, nz_11, nc_11, nz_12, nc_12, if_true, if_false, eq_self, true_and, and_true, false_or, or_false, true_or, or_true, false_and, and_false, not_true, not_false_eq_true, ne_eq, ite_self, ite_not, ↓reduceIte, z6 4 (by decide), z6 5 (by decide), m1, hr]
    rfl
  rw [c_198 lc_229]
  simp only [lc_229, lr_229_0, lr_229_14, lc_230, ll_230, lc_236, ll_236, bq_s, mS_c, mS_l, mS_r, mS_i, mS_j, mS_pi, mS_pj, lt_st, bq_s, bV_s, bI_s, bJ_s, bA_s, nz_0, nc_0, nz_1, nc_1, nz_2, nc_2, nz_3, nc_3, nz_4, nc_4, nz_5, nc_5, nz_6, nc_6, nz_7, nc_7, nz_8, nc_8, nz_9, nc_9, nz_10, nc_10, nz_11, nc_11, nz_12, nc_12, if_true, if_false, eq_self, true_and, and_true, false_or, or_false, true_or, or_true, false_and, and_false, not_true, not_false_eq_true, ne_eq, ite_self, ite_not, ↓reduceIte, z6 0 (by decide), a0, a1, a2, i0c, i0z, i0l, i1c, i1z, i1l, i2c, i2z, i2l, hep]
  rcases hs with hs | hs
  · have hs : I 230 (130 + 3 * e) = nI 1 := hs
    simp only [hs, if_true, if_false, eq_self, true_and, and_true, false_or, or_false, true_or, or_true, false_and, and_false, not_true, not_false_eq_true, ne_eq, ite_self, ite_not, ↓reduceIte, show (nI 1 = nI 3) = False from eq_false (by decide)]
    exact fin _ _ rfl (Or.inl rfl)
  · have hs : I 230 (130 + 3 * e) = nI 2 := hs
    simp only [hs, if_true, if_false, eq_self, true_and, and_true, false_or, or_false, true_or, or_true, false_and, and_false, not_true, not_false_eq_true, ne_eq, ite_self, ite_not, ↓reduceIte, show (nI 2 = nI 3) = False from eq_false (by decide), show (nI 2 = nI 1) = False from eq_false (by decide)]
    exact fin _ _ rfl (Or.inr rfl)
theorem m208 {a : Nat} (ha : a < 2 ^ 40) : am_cal (d + 1) 208 [.long (lN (a * 16384))] (mS I J) = some (some (.long (lN (min WH a * 16384))), mS I J) := by
  have ew : WH = 4194304 := rfl
  rw [c_208]
  simp only [l_gt, LN_lt (show 68719476736 < 2 ^ 63 by decide) (show a * 16384 < 2 ^ 63 by omega)]
  by_cases hl : 68719476736 < a * 16384
  · rw [if_pos hl, Nat.min_eq_left (by omega), ew]
  · rw [if_neg hl, Nat.min_eq_right (by omega)]
def HM (J : mJ) (h : Nat → Nat) : Prop := ∀ x, x < 12 → J 239 x = lN (h x * 16384)
theorem HM.up (hh : HM J h) {v : Nat} : HM (wJ J 239 p (lN (v * 16384))) (upN h p v) := fun x hx => by
  by_cases e : x = p
  · subst e; rw [wJ_eq, upN_e]
  · rw [wJ_nk e, upN_n e]; exact hh x hx
theorem HM.z (hh : HM J h) : HM (wJ J 239 p (lN 0)) (upN h p 0) := by
  have := HM.up hh (p := p) (v := 0)
  rw [Nat.zero_mul] at this
  exact this
set_option maxHeartbeats 4000000 in
theorem m209 (hW : WF (I 230)) (hc : c < nC (I 230)) (he : e < nE (I 230)) (hS : SP I (I 230) e) (hh : HM J h) (hI : shI (I 230) e h) : ∃ I' J', F2 236 237 I' I ∧ G1 239 J' J ∧ HM J' (shE (I 230) c e h) ∧ am_cal (d + 7) 209 [.ref 229, .int (nI e), .int (nI c)] (mS I J) = some (none, mS I' J') := by
  have h12 := hW.nP.1
  have hc12 := hW.nC.1
  have h18 := hW.nE.1
  have ew : WH = 4194304 := rfl
  obtain ⟨i1, i2, i3⟩ := hI
  obtain ⟨p, hp, h1, hby, hs⟩ := WFev hW he
  have a0 : nI 130 + nI 3 * nI e = nI (130 + 3 * e) := by rw [pk_mul, nI_add]
  have a1 : nI (130 + 3 * e) + nI 1 = nI (130 + 3 * e + 1) := nI_add _ _
  have a2 : nI 184 + nI 5 * nI c = nI (184 + 5 * c) := by rw [pk_mul, nI_add]
  have a3 : nI (184 + 5 * c) + nI 3 = nI (184 + 5 * c + 3) := nI_add _ _
  have i0c : (nI (130 + 3 * e)).toNatClampNeg = 130 + 3 * e := nI_clamp (by omega)
  have i0z : (nI (130 + 3 * e) < 0) = False := n_ge0 (by omega)
  have i0l : (546 ≤ 130 + 3 * e) = False := n_lef (by omega)
  have i1xc : (nI (130 + 3 * e + 1)).toNatClampNeg = 130 + 3 * e + 1 := nI_clamp (by omega)
  have i1xz : (nI (130 + 3 * e + 1) < 0) = False := n_ge0 (by omega)
  have i1xl : (546 ≤ 130 + 3 * e + 1) = False := n_lef (by omega)
  have k0c : (nI (184 + 5 * c)).toNatClampNeg = 184 + 5 * c := nI_clamp (by omega)
  have k0z : (nI (184 + 5 * c) < 0) = False := n_ge0 (by omega)
  have k0l : (546 ≤ 184 + 5 * c) = False := n_lef (by omega)
  have k3c : (nI (184 + 5 * c + 3)).toNatClampNeg = 184 + 5 * c + 3 := nI_clamp (by omega)
  have k3z : (nI (184 + 5 * c + 3) < 0) = False := n_ge0 (by omega)
  have k3l : (546 ≤ 184 + 5 * c + 3) = False := n_lef (by omega)
  have j0c : (nI (p)).toNatClampNeg = p := nI_clamp (by omega)
  have j0z : (nI (p) < 0) = False := n_ge0 (by omega)
  have j0l : (12 ≤ p) = False := n_lef (by omega)
  have h1' : I 230 (130 + 3 * e + 1) = nI p := h1
  have of : ∀ {I1 : mI} {J1 : mJ} {f : Nat}, I1 230 = I 230 → f < 10 → am_cal (d + 6) 152 [.ref 229, .int (nI p), .int (nI f)] (mS I1 J1) = some (some (.int (pF (I 230) p f)), mS I1 J1) := fun hF hf => by rw [m152 (by omega) hf, hF]
  have op := c_209 (d := d + 6) (b0 := 229) (x1 := nI e) (x2 := nI c) (I := I) (J := J) lc_229
  rw [shE_p h1 (by omega)]
  by_cases s3 : eF (I 230) e 0 = nI 3
  · have s3' : I 230 (130 + 3 * e) = nI 3 := s3
    have h4 : byE (I 230) p = e ∧ pF (I 230) p 1 = nI 4 := by
      rcases hs with ⟨hs, _⟩ | ⟨hs, _⟩ | ⟨hs, _⟩ | ⟨_, hs⟩ | ⟨hs, _⟩
      · rw [s3] at hs; exact absurd hs (by decide)
      · rw [s3] at hs; exact absurd hs (by decide)
      · rw [s3] at hs; exact absurd hs (by decide)
      · exact hs
      · rw [s3] at hs; exact absurd hs (by decide)
    obtain ⟨q, r, hq, hr, e2, e3, hqr⟩ := WFjq hW hp h4.2
    have q0c : (nI (q)).toNatClampNeg = q := nI_clamp (by omega)
    have q0z : (nI (q) < 0) = False := n_ge0 (by omega)
    have q0l : (12 ≤ q) = False := n_lef (by omega)
    have r0c : (nI (r)).toNatClampNeg = r := nI_clamp (by omega)
    have r0z : (nI (r) < 0) = False := n_ge0 (by omega)
    have r0l : (12 ≤ r) = False := n_lef (by omega)
    have bq := i1 q
    have br := i1 r
    have h208 := m208 (d := d + 5) (I := I) (J := J) (a := h q + h r) (by omega)
    rw [Nat.add_mul] at h208
    have hsh : shS (I 230) c e p (pF (I 230) p 2).toNatClampNeg (pF (I 230) p 3).toNatClampNeg (pF (I 230) p 6).toNatClampNeg (onE (I 230) (okey (I 230) c) e p (cF (I 230) c 2) (nI c)) h = upN (upN (upN h p (min WH (h q + h r))) q 0) r 0 := by
      unfold shS
      rw [if_pos s3, e2, e3, nI_clamp (by omega), nI_clamp (by omega)]
    rw [hsh]
    have hm1 := HM.up hh (p := p) (v := min WH (h q + h r))
    have hm2 := HM.z hm1 (p := q)
    have hm3 := HM.z hm2 (p := r)
    generalize min WH (h q + h r) = m at h208 hm1 hm2 hm3 ⊢
    have lqr : lN (h q * 16384) + lN (h r * 16384) = lN (h q * 16384 + h r * 16384) := lN_add _ _
    refine ⟨I, _, F2.rf, wJ_G1.tr (wJ_G1.tr wJ_G1), hm3, ?_⟩
    rw [op]
    simp only [lr_229_17, lc_239, ll_239, a0, a1, i0c, i0z, i0l, i1xc, i1xz, i1xl, j0c, j0z, j0l, q0c, q0z, q0l, r0c, r0z, r0l, h1', s3', of rfl (show 2 < 10 by decide), of rfl (show 3 < 10 by decide), e2, e3, hh q (show q < 12 by omega), hh r (show r < 12 by omega), lqr, h208, nn_0_1, nn_0_2, nn_0_3, nn_0_4, nn_0_5, nn_0_6, nn_0_7, nn_0_8, nn_1_0, nn_1_2, nn_1_3, nn_1_4, nn_1_5, nn_1_6, nn_1_7, nn_1_8, nn_2_0, nn_2_1, nn_2_3, nn_2_4, nn_2_5, nn_2_6, nn_2_7, nn_2_8, nn_3_0, nn_3_1, nn_3_2, nn_3_4, nn_3_5, nn_3_6, nn_3_7, nn_3_8, nn_4_0, nn_4_1, nn_4_2, nn_4_3, nn_4_5, nn_4_6, nn_4_7, nn_4_8, nn_5_0, nn_5_1, nn_5_2, nn_5_3, nn_5_4, nn_5_6, nn_5_7, nn_5_8, nn_6_0, nn_6_1, nn_6_2, nn_6_3, nn_6_4, nn_6_5, nn_6_7, nn_6_8, nn_7_0, nn_7_1, nn_7_2, nn_7_3, nn_7_4, nn_7_5, nn_7_6, nn_7_8, nn_8_0, nn_8_1, nn_8_2, nn_8_3, nn_8_4, nn_8_5, nn_8_6, nn_8_7, nq_0, nq_1, nq_2, nq_3, nq_4, nq_5, nq_6, nq_7, nq_8, lc_229, lr_229_0, lc_230, ll_230, bq_s, mS_c, mS_l, mS_r, mS_i, mS_j, mS_pi, mS_pj, lt_st, bq_s, bV_s, bI_s, bJ_s, bA_s, nz_0, nc_0, nz_1, nc_1, nz_2, nc_2, nz_3, nc_3, nz_4, nc_4, nz_5, nc_5, nz_6, nc_6, nz_7, nc_7, nz_8, nc_8, nz_9, nc_9, nz_10, nc_10, nz_11, nc_11, nz_12, nc_12, if_true, if_false, eq_self, true_and, and_true, false_or, or_false, true_or, or_true, false_and, and_false, not_true, not_false_eq_true, ne_eq, ite_self, ite_not, ↓reduceIte]
  · have s3' : ¬ I 230 (130 + 3 * e) = nI 3 := s3
    by_cases s4 : eF (I 230) e 0 = nI 4
    · have s4' : I 230 (130 + 3 * e) = nI 4 := s4
      have hby2 : byE (I 230) p < e := by
        rcases hs with ⟨hs, _⟩ | ⟨hs, _⟩ | ⟨hs, _⟩ | ⟨hs, _⟩ | ⟨_, hs⟩
        · rw [s4] at hs; exact absurd hs (by decide)
        · rw [s4] at hs; exact absurd hs (by decide)
        · rw [s4] at hs; exact absurd hs (by decide)
        · rw [s4] at hs; exact absurd hs (by decide)
        · exact hs
      have hz := HM.z hh (p := p)
      have r0 : ∀ f, f < 10 → am_cal (d + 6) 152 [.ref 229, .int (nI p), .int (nI f)] (mS I (wJ J 239 p (lN 0))) = some (some (.int (pF (I 230) p f)), mS I (wJ J 239 p (lN 0))) := fun f hf => of rfl hf
      have h155 := m155 (d := d + 4) (I := I) (J := wJ J 239 p (lN 0)) (p := p) (by omega)
      by_cases hcp : isCp (I 230) p
      · obtain ⟨q, hq, e2⟩ := WFcq hW hp hcp
        have q0c : (nI (q)).toNatClampNeg = q := nI_clamp (by omega)
        have q0z : (nI (q) < 0) = False := n_ge0 (by omega)
        have q0l : (12 ≤ q) = False := n_lef (by omega)
        have bq := i1 q
        have bp := i1 p
        have hu := SP_use hW he hp hcp hq e2 hby2 hS
        have h208 := m208 (d := d + 5) (I := I) (J := wJ J 239 p (lN 0)) (a := h q + h p) (by omega)
        rw [Nat.add_mul] at h208
        rw [if_pos hcp] at h155
        have lqp : lN (h q * 16384) + lN (h p * 16384) = lN (h q * 16384 + h p * 16384) := lN_add _ _
        have rq : (wJ J 239 p (lN 0)) 239 q = lN (h q * 16384) := by rw [wJ_nk (by omega)]; exact hh q (by omega)
        by_cases hst : stl (I 230) q e
        · have hsh : shS (I 230) c e p (pF (I 230) p 2).toNatClampNeg (pF (I 230) p 3).toNatClampNeg (pF (I 230) p 6).toNatClampNeg (onE (I 230) (okey (I 230) c) e p (cF (I 230) c 2) (nI c)) h = upN (upN h p 0) q (min WH (h q + h p)) := by
            unfold shS
            rw [if_neg s3, if_pos s4, e2, nI_clamp (by omega), if_pos ⟨hcp, hst⟩]
            funext x
            unfold upN
            by_cases xp : x = p
            · rw [if_pos xp, if_neg (by omega), if_pos xp]
            · rw [if_neg xp, if_neg xp]
          rw [hsh]
          have hm1 := HM.up hz (p := q) (v := min WH (h q + h p))
          generalize min WH (h q + h p) = m at h208 hm1 ⊢
          refine ⟨I, _, F2.rf, wJ_G1.tr wJ_G1, hm1, ?_⟩
          rw [op]
          simp only [lr_229_16, lc_238, ll_238, lr_229_17, lc_239, ll_239, a0, a1, i0c, i0z, i0l, i1xc, i1xz, i1xl, j0c, j0z, j0l, q0c, q0z, q0l, h1', s4', of rfl (show 2 < 10 by decide), e2, hh p (show p < 12 by omega), rq, h155, of_eq_true (hu.trans (eq_true hst)), lqp, h208, nn_0_1, nn_0_2, nn_0_3, nn_0_4, nn_0_5, nn_0_6, nn_0_7, nn_0_8, nn_1_0, nn_1_2, nn_1_3, nn_1_4, nn_1_5, nn_1_6, nn_1_7, nn_1_8, nn_2_0, nn_2_1, nn_2_3, nn_2_4, nn_2_5, nn_2_6, nn_2_7, nn_2_8, nn_3_0, nn_3_1, nn_3_2, nn_3_4, nn_3_5, nn_3_6, nn_3_7, nn_3_8, nn_4_0, nn_4_1, nn_4_2, nn_4_3, nn_4_5, nn_4_6, nn_4_7, nn_4_8, nn_5_0, nn_5_1, nn_5_2, nn_5_3, nn_5_4, nn_5_6, nn_5_7, nn_5_8, nn_6_0, nn_6_1, nn_6_2, nn_6_3, nn_6_4, nn_6_5, nn_6_7, nn_6_8, nn_7_0, nn_7_1, nn_7_2, nn_7_3, nn_7_4, nn_7_5, nn_7_6, nn_7_8, nn_8_0, nn_8_1, nn_8_2, nn_8_3, nn_8_4, nn_8_5, nn_8_6, nn_8_7, nq_0, nq_1, nq_2, nq_3, nq_4, nq_5, nq_6, nq_7, nq_8, lc_229, lr_229_0, lc_230, ll_230, bq_s, mS_c, mS_l, mS_r, mS_i, mS_j, mS_pi, mS_pj, lt_st, bq_s, bV_s, bI_s, bJ_s, bA_s, nz_0, nc_0, nz_1, nc_1, nz_2, nc_2, nz_3, nc_3, nz_4, nc_4, nz_5, nc_5, nz_6, nc_6, nz_7, nc_7, nz_8, nc_8, nz_9, nc_9, nz_10, nc_10, nz_11, nc_11, nz_12, nc_12, if_true, if_false, eq_self, true_and, and_true, false_or, or_false, true_or, or_true, false_and, and_false, not_true, not_false_eq_true, ne_eq, ite_self, ite_not, ↓reduceIte]
        · have hsh : shS (I 230) c e p (pF (I 230) p 2).toNatClampNeg (pF (I 230) p 3).toNatClampNeg (pF (I 230) p 6).toNatClampNeg (onE (I 230) (okey (I 230) c) e p (cF (I 230) c 2) (nI c)) h = upN h p 0 := by
            unfold shS
            rw [if_neg s3, if_pos s4, e2, nI_clamp (by omega), if_neg (fun hh => hst hh.2)]
          rw [hsh]
          have hn : (I 238 q = nI 1) = False := hu.trans (eq_false hst)
          refine ⟨I, _, F2.rf, wJ_G1, hz, ?_⟩
          rw [op]
          simp only [lr_229_16, lc_238, ll_238, lr_229_17, lc_239, ll_239, a0, a1, i0c, i0z, i0l, i1xc, i1xz, i1xl, j0c, j0z, j0l, q0c, q0z, q0l, h1', s4', of rfl (show 2 < 10 by decide), e2, hh p (show p < 12 by omega), rq, h155, hn, nn_0_1, nn_0_2, nn_0_3, nn_0_4, nn_0_5, nn_0_6, nn_0_7, nn_0_8, nn_1_0, nn_1_2, nn_1_3, nn_1_4, nn_1_5, nn_1_6, nn_1_7, nn_1_8, nn_2_0, nn_2_1, nn_2_3, nn_2_4, nn_2_5, nn_2_6, nn_2_7, nn_2_8, nn_3_0, nn_3_1, nn_3_2, nn_3_4, nn_3_5, nn_3_6, nn_3_7, nn_3_8, nn_4_0, nn_4_1, nn_4_2, nn_4_3, nn_4_5, nn_4_6, nn_4_7, nn_4_8, nn_5_0, nn_5_1, nn_5_2, nn_5_3, nn_5_4, nn_5_6, nn_5_7, nn_5_8, nn_6_0, nn_6_1, nn_6_2, nn_6_3, nn_6_4, nn_6_5, nn_6_7, nn_6_8, nn_7_0, nn_7_1, nn_7_2, nn_7_3, nn_7_4, nn_7_5, nn_7_6, nn_7_8, nn_8_0, nn_8_1, nn_8_2, nn_8_3, nn_8_4, nn_8_5, nn_8_6, nn_8_7, nq_0, nq_1, nq_2, nq_3, nq_4, nq_5, nq_6, nq_7, nq_8, lc_229, lr_229_0, lc_230, ll_230, bq_s, mS_c, mS_l, mS_r, mS_i, mS_j, mS_pi, mS_pj, lt_st, bq_s, bV_s, bI_s, bJ_s, bA_s, nz_0, nc_0, nz_1, nc_1, nz_2, nc_2, nz_3, nc_3, nz_4, nc_4, nz_5, nc_5, nz_6, nc_6, nz_7, nc_7, nz_8, nc_8, nz_9, nc_9, nz_10, nc_10, nz_11, nc_11, nz_12, nc_12, if_true, if_false, eq_self, true_and, and_true, false_or, or_false, true_or, or_true, false_and, and_false, not_true, not_false_eq_true, ne_eq, ite_self, ite_not, ↓reduceIte]
      · rw [if_neg hcp] at h155
        have hsh : shS (I 230) c e p (pF (I 230) p 2).toNatClampNeg (pF (I 230) p 3).toNatClampNeg (pF (I 230) p 6).toNatClampNeg (onE (I 230) (okey (I 230) c) e p (cF (I 230) c 2) (nI c)) h = upN h p 0 := by
          unfold shS
          rw [if_neg s3, if_pos s4, if_neg (fun hh => hcp hh.1)]
        rw [hsh]
        refine ⟨I, _, F2.rf, wJ_G1, hz, ?_⟩
        rw [op]
        simp only [lr_229_16, lc_238, ll_238, lr_229_17, lc_239, ll_239, a0, a1, i0c, i0z, i0l, i1xc, i1xz, i1xl, j0c, j0z, j0l, h1', s4', of rfl (show 2 < 10 by decide), hh p (show p < 12 by omega), h155, nn_0_1, nn_0_2, nn_0_3, nn_0_4, nn_0_5, nn_0_6, nn_0_7, nn_0_8, nn_1_0, nn_1_2, nn_1_3, nn_1_4, nn_1_5, nn_1_6, nn_1_7, nn_1_8, nn_2_0, nn_2_1, nn_2_3, nn_2_4, nn_2_5, nn_2_6, nn_2_7, nn_2_8, nn_3_0, nn_3_1, nn_3_2, nn_3_4, nn_3_5, nn_3_6, nn_3_7, nn_3_8, nn_4_0, nn_4_1, nn_4_2, nn_4_3, nn_4_5, nn_4_6, nn_4_7, nn_4_8, nn_5_0, nn_5_1, nn_5_2, nn_5_3, nn_5_4, nn_5_6, nn_5_7, nn_5_8, nn_6_0, nn_6_1, nn_6_2, nn_6_3, nn_6_4, nn_6_5, nn_6_7, nn_6_8, nn_7_0, nn_7_1, nn_7_2, nn_7_3, nn_7_4, nn_7_5, nn_7_6, nn_7_8, nn_8_0, nn_8_1, nn_8_2, nn_8_3, nn_8_4, nn_8_5, nn_8_6, nn_8_7, nq_0, nq_1, nq_2, nq_3, nq_4, nq_5, nq_6, nq_7, nq_8, lc_229, lr_229_0, lc_230, ll_230, bq_s, mS_c, mS_l, mS_r, mS_i, mS_j, mS_pi, mS_pj, lt_st, bq_s, bV_s, bI_s, bJ_s, bA_s, nz_0, nc_0, nz_1, nc_1, nz_2, nc_2, nz_3, nc_3, nz_4, nc_4, nz_5, nc_5, nz_6, nc_6, nz_7, nc_7, nz_8, nc_8, nz_9, nc_9, nz_10, nc_10, nz_11, nc_11, nz_12, nc_12, if_true, if_false, eq_self, true_and, and_true, false_or, or_false, true_or, or_true, false_and, and_false, not_true, not_false_eq_true, ne_eq, ite_self, ite_not, ↓reduceIte]
    · have s4' : ¬ I 230 (130 + 3 * e) = nI 4 := s4
      obtain ⟨I1, hF1, hr1⟩ := m207 (d := d) (J := J) (I := I) (day := cF (I 230) c 3) hW he hp h1
      have f0 := hF1 230 (by decide) (by decide)
      have c3 : I 230 (184 + 5 * c + 3) = cF (I 230) c 3 := rfl
      have c0 : I 230 (184 + 5 * c) = cF (I 230) c 0 := rfl
      by_cases hm : mv (I 230) e p (cF (I 230) c 3)
      · have my := my_mv h1 hm
        have hcp := (my_yt hW he hp my).1
        have hp0 : h p = 0 := i3 p hp (my_stt hW he hp my).2
        have hpt := my_part hW he hp my
        obtain ⟨q, hq, e2⟩ := WFcq hW hp hcp
        have q0c : (nI (q)).toNatClampNeg = q := nI_clamp (by omega)
        have q0z : (nI (q) < 0) = False := n_ge0 (by omega)
        have q0l : (12 ≤ q) = False := n_lef (by omega)
        have bq := i1 q
        obtain ⟨k, hk3, e6⟩ : ∃ k, k ≤ 3 ∧ pF (I 230) p 6 = nI k := by
          rcases (hW.per hp).1 with ⟨h4, _⟩ | ⟨_, _, _, _, ⟨m, hm1, hm3, em⟩, _⟩ | ⟨h4, _⟩
          · rcases hcp with hc | hc | hc <;> rw [h4] at hc <;> exact absurd hc (by decide)
          · exact ⟨m, hm3, em⟩
          · rcases hcp with hc | hc | hc <;> rw [h4] at hc <;> exact absurd hc (by decide)
        have d4 : 4 ∣ h q := Nat.dvd_trans (by rw [hpt, Nat.pow_succ]; exact Nat.dvd_mul_left _ _) (i2 q)
        obtain ⟨t, ht⟩ := d4
        have es : eF (I 230) e 0 = nI 1 ∨ eF (I 230) e 0 = nI 2 := by
          rcases hm.1 with h | h
          · exact Or.inl h.1
          · exact Or.inr h.1
        obtain ⟨I2, hF2, hr2⟩ := m198c (d := d + 2) (J := J) (I := I1) (key := okey (I 230) c) (c := c) (by rw [f0]; exact hW) (by rw [f0]; exact he) (by rw [f0]; exact es) (by rw [f0]; exact hp) (by rw [f0]; exact h1) (by omega)
        rw [f0] at hr2
        have g0 := hF2 230 (by decide) (by decide)
        have hF := hF1.tr hF2
        have ek : (nI k).toInt64 = lN k := nI_l (by omega)
        have z4 : (lN 4 = 0) = False := eq_false (by decide +kernel)
        have dv : lN (h q * 16384) / lN 4 = lN (h q / 4 * 16384) := by
          rw [LN_div (by omega) (by decide) (by decide)]
          exact congrArg lN (by omega)
        have lqk : h q / 4 * k ≤ h q := by
          have : h q / 4 * k ≤ h q / 4 * 4 := Nat.mul_le_mul_left _ (by omega)
          omega
        have sm : lN (h q / 4 * 16384) * lN k = lN (h q / 4 * k * 16384) := by
          rw [lN_mul]
          exact congrArg lN (by rw [Nat.mul_assoc, Nat.mul_comm 16384 k, ← Nat.mul_assoc])
        have sb : lN (h q * 16384) - lN (h q / 4 * k * 16384) = lN ((h q - h q / 4 * k) * 16384) := by
          rw [lN_sub (Nat.mul_le_mul_right _ lqk), Nat.sub_mul]
        have hp00 : J 239 p = lN 0 := by rw [hh p (by omega), hp0, Nat.zero_mul]
        have add0 : lN 0 + lN (h q / 4 * k * 16384) = lN (h q / 4 * k * 16384) := by rw [lN_add, Nat.zero_add]
        generalize hv : onE (I 230) (okey (I 230) c) e p (cF (I 230) c 2) (nI c) = v at hr2
        have m120 : ∀ t0, t0 = okey (I 230) c → ∃ J', G1 239 J' J ∧ HM J' (if v = nI 1 then upN (upN h p (h q)) q 0 else if v = nI 2 then upN (upN h p (h q / 4 * k)) q (h q - h q / 4 * k) else if v = nI 3 then upN h p (h q) else h) ∧ am_X (am_cal (d + 6)) 209 120 [.ref 229, .int (nI e), .int (nI c), .null, .int (nI p), .int (nI q), .null, .null, .null] [.int t0, .ref 229] (mS I1 J) = some (none, mS I2 J') := by
          intro t0 ht0
          rw [ht0, e_209_120, hr2, bI_s]
          have o6 : am_cal (d + 6) 152 [.ref 229, .int (nI p), .int (nI 6)] (mS I2 J) = some (some (.int (nI k)), mS I2 J) := by rw [of (by rw [g0, f0]) (by decide), e6]
          have vq := hh q (show q < 12 by omega)
          by_cases hv1 : v = nI 1
          · have a1 := HM.z (HM.up hh (p := p) (v := h q)) (p := q)
            refine ⟨_, wJ_G1.tr wJ_G1, by rw [if_pos hv1]; exact a1, ?_⟩
            simp only [hv1, lr_229_17, lc_239, ll_239, j0c, j0z, j0l, q0c, q0z, q0l, vq, nn_0_1, nn_0_2, nn_0_3, nn_0_4, nn_0_5, nn_0_6, nn_0_7, nn_0_8, nn_1_0, nn_1_2, nn_1_3, nn_1_4, nn_1_5, nn_1_6, nn_1_7, nn_1_8, nn_2_0, nn_2_1, nn_2_3, nn_2_4, nn_2_5, nn_2_6, nn_2_7, nn_2_8, nn_3_0, nn_3_1, nn_3_2, nn_3_4, nn_3_5, nn_3_6, nn_3_7, nn_3_8, nn_4_0, nn_4_1, nn_4_2, nn_4_3, nn_4_5, nn_4_6, nn_4_7, nn_4_8, nn_5_0, nn_5_1, nn_5_2, nn_5_3, nn_5_4, nn_5_6, nn_5_7, nn_5_8, nn_6_0, nn_6_1, nn_6_2, nn_6_3, nn_6_4, nn_6_5, nn_6_7, nn_6_8, nn_7_0, nn_7_1, nn_7_2, nn_7_3, nn_7_4, nn_7_5, nn_7_6, nn_7_8, nn_8_0, nn_8_1, nn_8_2, nn_8_3, nn_8_4, nn_8_5, nn_8_6, nn_8_7, nq_0, nq_1, nq_2, nq_3, nq_4, nq_5, nq_6, nq_7, nq_8, lc_229, lr_229_0, lc_230, ll_230, bq_s, mS_c, mS_l, mS_r, mS_i, mS_j, mS_pi, mS_pj, lt_st, bq_s, bV_s, bI_s, bJ_s, bA_s, nz_0, nc_0, nz_1, nc_1, nz_2, nc_2, nz_3, nc_3, nz_4, nc_4, nz_5, nc_5, nz_6, nc_6, nz_7, nc_7, nz_8, nc_8, nz_9, nc_9, nz_10, nc_10, nz_11, nc_11, nz_12, nc_12, if_true, if_false, eq_self, true_and, and_true, false_or, or_false, true_or, or_true, false_and, and_false, not_true, not_false_eq_true, ne_eq, ite_self, ite_not, ↓reduceIte]
          · by_cases hv2 : v = nI 2
            · have a1 := HM.up (HM.up hh (p := p) (v := h q / 4 * k)) (p := q) (v := h q - h q / 4 * k)
              refine ⟨_, wJ_G1.tr wJ_G1, by rw [if_neg hv1, if_pos hv2]; exact a1, ?_⟩
              simp only [hv2, lr_229_17, lc_239, ll_239, j0c, j0z, j0l, q0c, q0z, q0l, vq, z4, dv, o6, ek, sm, hp00, add0, wJ_nk (show q ≠ p by omega), sb, nn_0_1, nn_0_2, nn_0_3, nn_0_4, nn_0_5, nn_0_6, nn_0_7, nn_0_8, nn_1_0, nn_1_2, nn_1_3, nn_1_4, nn_1_5, nn_1_6, nn_1_7, nn_1_8, nn_2_0, nn_2_1, nn_2_3, nn_2_4, nn_2_5, nn_2_6, nn_2_7, nn_2_8, nn_3_0, nn_3_1, nn_3_2, nn_3_4, nn_3_5, nn_3_6, nn_3_7, nn_3_8, nn_4_0, nn_4_1, nn_4_2, nn_4_3, nn_4_5, nn_4_6, nn_4_7, nn_4_8, nn_5_0, nn_5_1, nn_5_2, nn_5_3, nn_5_4, nn_5_6, nn_5_7, nn_5_8, nn_6_0, nn_6_1, nn_6_2, nn_6_3, nn_6_4, nn_6_5, nn_6_7, nn_6_8, nn_7_0, nn_7_1, nn_7_2, nn_7_3, nn_7_4, nn_7_5, nn_7_6, nn_7_8, nn_8_0, nn_8_1, nn_8_2, nn_8_3, nn_8_4, nn_8_5, nn_8_6, nn_8_7, nq_0, nq_1, nq_2, nq_3, nq_4, nq_5, nq_6, nq_7, nq_8, lc_229, lr_229_0, lc_230, ll_230, bq_s, mS_c, mS_l, mS_r, mS_i, mS_j, mS_pi, mS_pj, lt_st, bq_s, bV_s, bI_s, bJ_s, bA_s, nz_0, nc_0, nz_1, nc_1, nz_2, nc_2, nz_3, nc_3, nz_4, nc_4, nz_5, nc_5, nz_6, nc_6, nz_7, nc_7, nz_8, nc_8, nz_9, nc_9, nz_10, nc_10, nz_11, nc_11, nz_12, nc_12, if_true, if_false, eq_self, true_and, and_true, false_or, or_false, true_or, or_true, false_and, and_false, not_true, not_false_eq_true, ne_eq, ite_self, ite_not, ↓reduceIte]
            · by_cases hv3 : v = nI 3
              · have a1 := HM.up hh (p := p) (v := h q)
                refine ⟨_, wJ_G1, by rw [if_neg hv1, if_neg hv2, if_pos hv3]; exact a1, ?_⟩
                simp only [hv3, lr_229_17, lc_239, ll_239, j0c, j0z, j0l, q0c, q0z, q0l, vq, nn_0_1, nn_0_2, nn_0_3, nn_0_4, nn_0_5, nn_0_6, nn_0_7, nn_0_8, nn_1_0, nn_1_2, nn_1_3, nn_1_4, nn_1_5, nn_1_6, nn_1_7, nn_1_8, nn_2_0, nn_2_1, nn_2_3, nn_2_4, nn_2_5, nn_2_6, nn_2_7, nn_2_8, nn_3_0, nn_3_1, nn_3_2, nn_3_4, nn_3_5, nn_3_6, nn_3_7, nn_3_8, nn_4_0, nn_4_1, nn_4_2, nn_4_3, nn_4_5, nn_4_6, nn_4_7, nn_4_8, nn_5_0, nn_5_1, nn_5_2, nn_5_3, nn_5_4, nn_5_6, nn_5_7, nn_5_8, nn_6_0, nn_6_1, nn_6_2, nn_6_3, nn_6_4, nn_6_5, nn_6_7, nn_6_8, nn_7_0, nn_7_1, nn_7_2, nn_7_3, nn_7_4, nn_7_5, nn_7_6, nn_7_8, nn_8_0, nn_8_1, nn_8_2, nn_8_3, nn_8_4, nn_8_5, nn_8_6, nn_8_7, nq_0, nq_1, nq_2, nq_3, nq_4, nq_5, nq_6, nq_7, nq_8, lc_229, lr_229_0, lc_230, ll_230, bq_s, mS_c, mS_l, mS_r, mS_i, mS_j, mS_pi, mS_pj, lt_st, bq_s, bV_s, bI_s, bJ_s, bA_s, nz_0, nc_0, nz_1, nc_1, nz_2, nc_2, nz_3, nc_3, nz_4, nc_4, nz_5, nc_5, nz_6, nc_6, nz_7, nc_7, nz_8, nc_8, nz_9, nc_9, nz_10, nc_10, nz_11, nc_11, nz_12, nc_12, if_true, if_false, eq_self, true_and, and_true, false_or, or_false, true_or, or_true, false_and, and_false, not_true, not_false_eq_true, ne_eq, ite_self, ite_not, ↓reduceIte]
              · refine ⟨J, fun _ _ => rfl, by rw [if_neg hv1, if_neg hv2, if_neg hv3]; exact hh, ?_⟩
                simp only [hv1, hv2, hv3, nn_0_1, nn_0_2, nn_0_3, nn_0_4, nn_0_5, nn_0_6, nn_0_7, nn_0_8, nn_1_0, nn_1_2, nn_1_3, nn_1_4, nn_1_5, nn_1_6, nn_1_7, nn_1_8, nn_2_0, nn_2_1, nn_2_3, nn_2_4, nn_2_5, nn_2_6, nn_2_7, nn_2_8, nn_3_0, nn_3_1, nn_3_2, nn_3_4, nn_3_5, nn_3_6, nn_3_7, nn_3_8, nn_4_0, nn_4_1, nn_4_2, nn_4_3, nn_4_5, nn_4_6, nn_4_7, nn_4_8, nn_5_0, nn_5_1, nn_5_2, nn_5_3, nn_5_4, nn_5_6, nn_5_7, nn_5_8, nn_6_0, nn_6_1, nn_6_2, nn_6_3, nn_6_4, nn_6_5, nn_6_7, nn_6_8, nn_7_0, nn_7_1, nn_7_2, nn_7_3, nn_7_4, nn_7_5, nn_7_6, nn_7_8, nn_8_0, nn_8_1, nn_8_2, nn_8_3, nn_8_4, nn_8_5, nn_8_6, nn_8_7, nq_0, nq_1, nq_2, nq_3, nq_4, nq_5, nq_6, nq_7, nq_8, lc_229, lr_229_0, lc_230, ll_230, bq_s, mS_c, mS_l, mS_r, mS_i, mS_j, mS_pi, mS_pj, lt_st, bq_s, bV_s, bI_s, bJ_s, bA_s, nz_0, nc_0, nz_1, nc_1, nz_2, nc_2, nz_3, nc_3, nz_4, nc_4, nz_5, nc_5, nz_6, nc_6, nz_7, nc_7, nz_8, nc_8, nz_9, nc_9, nz_10, nc_10, nz_11, nc_11, nz_12, nc_12, if_true, if_false, eq_self, true_and, and_true, false_or, or_false, true_or, or_true, false_and, and_false, not_true, not_false_eq_true, ne_eq, ite_self, ite_not, ↓reduceIte]
        obtain ⟨J', x1, x2, x3⟩ := m120 _ rfl
        refine ⟨I2, J', hF, x1, ?_, ?_⟩
        · unfold shS
          rw [if_neg s3, if_neg s4, if_pos hm, e2, e6, nI_clamp (by omega), nI_clamp (by omega)]
          exact x2
        · rw [op]
          simp only [a0, a1, a2, a3, i0c, i0z, i0l, i1xc, i1xz, i1xl, k0c, k0z, k0l, k3c, k3z, k3l, h1', s3', s4', of rfl (show 2 < 10 by decide), e2, c3, hr1, b2_t hm, f0, c0, nn_0_1, nn_0_2, nn_0_3, nn_0_4, nn_0_5, nn_0_6, nn_0_7, nn_0_8, nn_1_0, nn_1_2, nn_1_3, nn_1_4, nn_1_5, nn_1_6, nn_1_7, nn_1_8, nn_2_0, nn_2_1, nn_2_3, nn_2_4, nn_2_5, nn_2_6, nn_2_7, nn_2_8, nn_3_0, nn_3_1, nn_3_2, nn_3_4, nn_3_5, nn_3_6, nn_3_7, nn_3_8, nn_4_0, nn_4_1, nn_4_2, nn_4_3, nn_4_5, nn_4_6, nn_4_7, nn_4_8, nn_5_0, nn_5_1, nn_5_2, nn_5_3, nn_5_4, nn_5_6, nn_5_7, nn_5_8, nn_6_0, nn_6_1, nn_6_2, nn_6_3, nn_6_4, nn_6_5, nn_6_7, nn_6_8, nn_7_0, nn_7_1, nn_7_2, nn_7_3, nn_7_4, nn_7_5, nn_7_6, nn_7_8, nn_8_0, nn_8_1, nn_8_2, nn_8_3, nn_8_4, nn_8_5, nn_8_6, nn_8_7, nq_0, nq_1, nq_2, nq_3, nq_4, nq_5, nq_6, nq_7, nq_8, lc_229, lr_229_0, lc_230, ll_230, bq_s, mS_c, mS_l, mS_r, mS_i, mS_j, mS_pi, mS_pj, lt_st, bq_s, bV_s, bI_s, bJ_s, bA_s, nz_0, nc_0, nz_1, nc_1, nz_2, nc_2, nz_3, nc_3, nz_4, nc_4, nz_5, nc_5, nz_6, nc_6, nz_7, nc_7, nz_8, nc_8, nz_9, nc_9, nz_10, nc_10, nz_11, nc_11, nz_12, nc_12, if_true, if_false, eq_self, true_and, and_true, false_or, or_false, true_or, or_true, false_and, and_false, not_true, not_false_eq_true, ne_eq, ite_self, ite_not, ↓reduceIte]
          unfold okey at x3
          by_cases hc0 : cF (I 230) c 0 = nI 0
          · rw [if_pos hc0] at x3
            rw [if_pos (by rw [hc0]; exact nI_0)]
            exact x3
          · rw [if_neg hc0] at x3
            rw [if_neg (by rw [n_i0]; exact hc0)]
            exact x3
      · refine ⟨I1, J, hF1, fun _ _ => rfl, ?_, ?_⟩
        · unfold shS
          rw [if_neg s3, if_neg s4, if_neg hm]
          exact hh
        · rw [op]
          simp only [a0, a1, a2, a3, i0c, i0z, i0l, i1xc, i1xz, i1xl, k0c, k0z, k0l, k3c, k3z, k3l, h1', s3', s4', of rfl (show 2 < 10 by decide), c3, hr1, b2_f hm, f0, c0, nn_0_1, nn_0_2, nn_0_3, nn_0_4, nn_0_5, nn_0_6, nn_0_7, nn_0_8, nn_1_0, nn_1_2, nn_1_3, nn_1_4, nn_1_5, nn_1_6, nn_1_7, nn_1_8, nn_2_0, nn_2_1, nn_2_3, nn_2_4, nn_2_5, nn_2_6, nn_2_7, nn_2_8, nn_3_0, nn_3_1, nn_3_2, nn_3_4, nn_3_5, nn_3_6, nn_3_7, nn_3_8, nn_4_0, nn_4_1, nn_4_2, nn_4_3, nn_4_5, nn_4_6, nn_4_7, nn_4_8, nn_5_0, nn_5_1, nn_5_2, nn_5_3, nn_5_4, nn_5_6, nn_5_7, nn_5_8, nn_6_0, nn_6_1, nn_6_2, nn_6_3, nn_6_4, nn_6_5, nn_6_7, nn_6_8, nn_7_0, nn_7_1, nn_7_2, nn_7_3, nn_7_4, nn_7_5, nn_7_6, nn_7_8, nn_8_0, nn_8_1, nn_8_2, nn_8_3, nn_8_4, nn_8_5, nn_8_6, nn_8_7, nq_0, nq_1, nq_2, nq_3, nq_4, nq_5, nq_6, nq_7, nq_8, lc_229, lr_229_0, lc_230, ll_230, bq_s, mS_c, mS_l, mS_r, mS_i, mS_j, mS_pi, mS_pj, lt_st, bq_s, bV_s, bI_s, bJ_s, bA_s, nz_0, nc_0, nz_1, nc_1, nz_2, nc_2, nz_3, nc_3, nz_4, nc_4, nz_5, nc_5, nz_6, nc_6, nz_7, nc_7, nz_8, nc_8, nz_9, nc_9, nz_10, nc_10, nz_11, nc_11, nz_12, nc_12, if_true, if_false, eq_self, true_and, and_true, false_or, or_false, true_or, or_true, false_and, and_false, not_true, not_false_eq_true, ne_eq, ite_self, ite_not, ↓reduceIte]
end D5
