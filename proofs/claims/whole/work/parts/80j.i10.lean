/-! ===== act: the class ===== -/
def st0 : As := (0, (fun _ => nI 0), nI 0)
def actF (k : Nat) (n a y x : Int32) : Int32 × As := if y = nI 0 then fB k n a x st0 else if y = nI 1 then fK k n a x st0 else if y = nI 2 then fS k n a x st0 else fT k n a x st0
def actV (k : Nat) (n a y x : Int32) : Int32 × As := (if (actF k n a y x).2.2.2 = 0 then (actF k n a y x).1 else Int32.ofInt (-15), (actF k n a y x).2)
abbrev okAc (s : Rw) (W : Nat → Nat) (H : Nat → Int32) (x y : Int32) : Prop := isSh x ∧ (¬ y < 0 ∧ ¬ nI 3 < y) ∧ hd s W H x.toNatClampNeg < 2
def v_act (s : Rw) (W : Nat → Nat) (H : Nat → Int32) (x y z : Int32) : Int32 × As := if okAc s W H x y then actV (kd s W H x.toNatClampNeg).toNatClampNeg (H x.toNatClampNeg) (ab s W H x.toNatClampNeg) y z else (nI 0, st0)
/-- the trace, as the class and as the model hold it -/
def TrC (I : mI) (m : Nat) (T : Nat → Int32) : Prop := I 205 1 = nI m ∧ m ≤ 30 ∧ ∀ j, j < m → I 206 j = T j
def TrM (I : mI) (m : Nat) (T : Nat → Int32) : Prop := I 229 35 = nI m ∧ m ≤ 30 ∧ ∀ j, j < m → I 248 j = T j
section I10s
variable {I I' : mI} {J : mJ} {s : Rw} {d k q p i c m L : Nat} {n a x y z u v w : Int32} {W : Nat → Nat} {H Y : Nat → Int32} {xs : Nat → Int32}
theorem k1 : am_cal (d + 1) 1 [.ref 205] (mS I J) = some (none, mS (wI (wI I 205 1 (nI 0)) 205 5 (nI 0)) J) := by
  rw [c_1 lc_205]
  simp only [lc_205, bq_s, mS_c, mS_l, mS_r, mS_i, mS_j, mS_pi, mS_pj, lt_st, bq_s, bV_s, bI_s, bJ_s, bA_s, nz_0, nc_0, nz_1, nc_1, nz_2, nc_2, nz_3, nc_3, nz_4, nc_4, nz_5, nc_5, nz_6, nc_6, nz_7, nc_7, nz_8, nc_8, nz_9, nc_9, nz_10, nc_10, nz_11, nc_11, nz_12, nc_12, if_true, if_false, eq_self, true_and, and_true, false_or, or_false, true_or, or_true, false_and, and_false, not_true, not_false_eq_true, ne_eq, ite_self, ite_not, ↓reduceIte, n_101, n_107, n_11]
theorem k2 (hX : FX L xs I) (hk1 : 1 ≤ k) (hk : k ≤ 7) (h1 : I 205 1 = nI 0) (h5 : I 205 5 = nI 0) : ∃ I', FA I' I ∧ TrC I' (actV k n a y x).2.1 (actV k n a y x).2.2.1 ∧ am_cal (d + 8) 2 [.ref 205, .int (nI k), .int n, .int a, .int y, .int x] (mS I J) = some (some (.int (actV k n a y x).1), mS I' J) := by
  have i0c : (nI (k)).toNatClampNeg = k := nI_clamp (by omega)
  have i0z : (nI (k) < 0) = False := n_ge0 (by omega)
  have i0l : (8 ≤ k) = False := n_lef (by omega)
  generalize hI0 : wI (wI (wI I 205 2 (nI k)) 205 3 n) 205 4 a = I0
  have f0 : FA I0 I := fun c h h' => by rw [← hI0, wI_F1 c h, wI_F1 c h, wI_F1 c h]
  have hX0 : FX L xs I0 := hX.fa f0
  have f2 : I0 205 2 = nI k := by rw [← hI0, wI_nk (by decide), wI_nk (by decide), wI_eq]
  have hA : AC I0 k n a st0 := ⟨f2, by rw [← hI0, wI_nk (by decide), wI_eq], by rw [← hI0, wI_eq], by rw [← hI0, wI_nk (by decide), wI_nk (by decide), wI_nk (by decide)]; exact h1, by decide, fun j hj => absurd hj (Nat.not_lt_zero j), by rw [← hI0, wI_nk (by decide), wI_nk (by decide), wI_nk (by decide)]; exact h5, fun _ => rfl⟩
  have e0 : am_cal (d + 8) 2 [.ref 205, .int (nI k), .int n, .int a, .int y, .int x] (mS I J) = _ := c_2 lc_205
  have t3 : (nI 8).toNatClampNeg = 8 := nI_clamp (by decide)
  have fin : ∀ (F : Int32 × As) (I1 : mI), actF k n a y x = F → FA I1 I0 → AC I1 k n a F.2 → am_cal (d + 8) 2 [.ref 205, .int (nI k), .int n, .int a, .int y, .int x] (mS I J) = (if I1 205 5 = 0 then some (some (.int F.1), mS I1 J) else some (some (.int (Int32.ofInt (-15))), mS I1 J)) → ∃ I', FA I' I ∧ TrC I' (actV k n a y x).2.1 (actV k n a y x).2.2.1 ∧ am_cal (d + 8) 2 [.ref 205, .int (nI k), .int n, .int a, .int y, .int x] (mS I J) = some (some (.int (actV k n a y x).1), mS I' J) := fun F I1 hF f1 hA1 h => by
    obtain ⟨g2, g3, g4, g1, gr, gT, g5, gz⟩ := hA1
    unfold actV
    rw [hF]
    refine ⟨I1, f1.tr f0, ⟨g1, gr, gT⟩, ?_⟩
    rw [h, g5, o_if]
  have w1 : ∀ j, j < 4 → I0 (2000000 + j) k = nI (tE j k) := fun j hj => hX0.t hj (by omega)
  have w2 : ∀ j, j < 4 → I0 (3000000 + j) 0 = nI 8 := fun j hj => hX0.ln hj
  have w3 : ∀ j, j < 4 → lyC (2000000 + j) = 998 := fun j hj => lx_row (by omega)
  have u0 := w1 0 (by decide)
  have u1 := w1 1 (by decide)
  have u2 := w1 2 (by decide)
  have u3 := w1 3 (by decide)
  have v0 := w2 0 (by decide)
  have v1 := w2 1 (by decide)
  have v2 := w2 2 (by decide)
  have v3 := w2 3 (by decide)
  have c0 := w3 0 (by decide)
  have c1 := w3 1 (by decide)
  have c2 := w3 2 (by decide)
  have c3 := w3 3 (by decide)
  simp only [Nat.add_zero, Nat.reduceAdd] at u0 u1 u2 u3 v0 v1 v2 v3 c0 c1 c2 c3
  simp only [lc_205, hI0, f2, u0, u1, u2, u3, v0, v1, v2, v3, c0, c1, c2, c3, t3, i0c, i0z, i0l, Nat.reduceAdd, bq_s, mS_c, mS_l, mS_r, mS_i, mS_j, mS_pi, mS_pj, lt_st, bq_s, bV_s, bI_s, bJ_s, bA_s, nz_0, nc_0, nz_1, nc_1, nz_2, nc_2, nz_3, nc_3, nz_4, nc_4, nz_5, nc_5, nz_6, nc_6, nz_7, nc_7, nz_8, nc_8, nz_9, nc_9, nz_10, nc_10, nz_11, nc_11, nz_12, nc_12, if_true, if_false, eq_self, true_and, and_true, false_or, or_false, true_or, or_true, false_and, and_false, not_true, not_false_eq_true, ne_eq, ite_self, ite_not, ↓reduceIte, n_101, n_107, n_11] at e0
  by_cases y0 : y = nI 0
  · rw [if_pos (by rw [n_i0]; exact y0)] at e0
    obtain ⟨I1, b1, b2, b3⟩ := rB hk1 hk L xs I0 J (d + 4) 0 x st0 hX0 hA (by decide)
    rw [b3] at e0
    simp only [lc_205, bq_s, mS_c, mS_l, mS_r, mS_i, mS_j, mS_pi, mS_pj, lt_st, bq_s, bV_s, bI_s, bJ_s, bA_s, nz_0, nc_0, nz_1, nc_1, nz_2, nc_2, nz_3, nc_3, nz_4, nc_4, nz_5, nc_5, nz_6, nc_6, nz_7, nc_7, nz_8, nc_8, nz_9, nc_9, nz_10, nc_10, nz_11, nc_11, nz_12, nc_12, if_true, if_false, eq_self, true_and, and_true, false_or, or_false, true_or, or_true, false_and, and_false, not_true, not_false_eq_true, ne_eq, ite_self, ite_not, ↓reduceIte, n_101, n_107, n_11] at e0
    exact fin (fB k n a x st0) I1 (by unfold actF; rw [if_pos y0]) b1 b2 e0
  · rw [if_neg (by rw [n_i0]; exact y0)] at e0
    by_cases y1 : y = nI 1
    · rw [if_pos y1] at e0
      obtain ⟨I1, b1, b2, b3⟩ := rK hk1 hk L xs I0 J (d + 2) 0 x st0 hX0 hA (by decide)
      rw [b3] at e0
      simp only [lc_205, bq_s, mS_c, mS_l, mS_r, mS_i, mS_j, mS_pi, mS_pj, lt_st, bq_s, bV_s, bI_s, bJ_s, bA_s, nz_0, nc_0, nz_1, nc_1, nz_2, nc_2, nz_3, nc_3, nz_4, nc_4, nz_5, nc_5, nz_6, nc_6, nz_7, nc_7, nz_8, nc_8, nz_9, nc_9, nz_10, nc_10, nz_11, nc_11, nz_12, nc_12, if_true, if_false, eq_self, true_and, and_true, false_or, or_false, true_or, or_true, false_and, and_false, not_true, not_false_eq_true, ne_eq, ite_self, ite_not, ↓reduceIte, n_101, n_107, n_11] at e0
      exact fin (fK k n a x st0) I1 (by unfold actF; rw [if_neg y0, if_pos y1]) b1 b2 e0
    · rw [if_neg y1] at e0
      by_cases y2 : y = nI 2
      · rw [if_pos y2] at e0
        obtain ⟨I1, b1, b2, b3⟩ := rS hk1 hk L xs I0 J (d + 4) 0 x st0 hX0 hA (by decide)
        rw [b3] at e0
        simp only [lc_205, bq_s, mS_c, mS_l, mS_r, mS_i, mS_j, mS_pi, mS_pj, lt_st, bq_s, bV_s, bI_s, bJ_s, bA_s, nz_0, nc_0, nz_1, nc_1, nz_2, nc_2, nz_3, nc_3, nz_4, nc_4, nz_5, nc_5, nz_6, nc_6, nz_7, nc_7, nz_8, nc_8, nz_9, nc_9, nz_10, nc_10, nz_11, nc_11, nz_12, nc_12, if_true, if_false, eq_self, true_and, and_true, false_or, or_false, true_or, or_true, false_and, and_false, not_true, not_false_eq_true, ne_eq, ite_self, ite_not, ↓reduceIte, n_101, n_107, n_11] at e0
        exact fin (fS k n a x st0) I1 (by unfold actF; rw [if_neg y0, if_neg y1, if_pos y2]) b1 b2 e0
      · rw [if_neg y2] at e0
        obtain ⟨I1, b1, b2, b3⟩ := rT hk1 hk L xs I0 J d 0 x st0 hX0 hA (by decide)
        rw [b3] at e0
        simp only [lc_205, bq_s, mS_c, mS_l, mS_r, mS_i, mS_j, mS_pi, mS_pj, lt_st, bq_s, bV_s, bI_s, bJ_s, bA_s, nz_0, nc_0, nz_1, nc_1, nz_2, nc_2, nz_3, nc_3, nz_4, nc_4, nz_5, nc_5, nz_6, nc_6, nz_7, nc_7, nz_8, nc_8, nz_9, nc_9, nz_10, nc_10, nz_11, nc_11, nz_12, nc_12, if_true, if_false, eq_self, true_and, and_true, false_or, or_false, true_or, or_true, false_and, and_false, not_true, not_false_eq_true, ne_eq, ite_self, ite_not, ↓reduceIte, n_101, n_107, n_11] at e0
        exact fin (fT k n a x st0) I1 (by unfold actF; rw [if_neg y0, if_neg y1, if_neg y2]) b1 b2 e0
theorem SlC.fa (h : SlC I W H Y) (hf : FA I' I) : SlC I' W H Y := fun q hq => by
  rw [hf 227 (by decide) (by decide), hf 228 (by decide) (by decide)]
  exact h q hq
theorem k134 (hX : FX L xs I) (hL : SlC I W H Y) (hR : Rep I 1 s) (hW : WF s) : ∃ I', FA I' I ∧ TrC I' (v_act s W H x y z).2.1 (v_act s W H x y z).2.2.1 ∧ am_cal (d + 9) 134 [.ref 0, .int x, .int y, .int z] (mS I J) = some (some (.int (v_act s W H x y z).1), mS I' J) := by
  have e0 : am_cal (d + 9) 134 [.ref 0, .int x, .int y, .int z] (mS I J) = _ := c_134 lc_0
  simp only [lc_0, lr_0_9, bq_s, mS_c, mS_l, mS_r, mS_i, mS_j, mS_pi, mS_pj, lt_st, bq_s, bV_s, bI_s, bJ_s, bA_s, nz_0, nc_0, nz_1, nc_1, nz_2, nc_2, nz_3, nc_3, nz_4, nc_4, nz_5, nc_5, nz_6, nc_6, nz_7, nc_7, nz_8, nc_8, nz_9, nc_9, nz_10, nc_10, nz_11, nc_11, nz_12, nc_12, if_true, if_false, eq_self, true_and, and_true, false_or, or_false, true_or, or_true, false_and, and_false, not_true, not_false_eq_true, ne_eq, ite_self, ite_not, ↓reduceIte, n_101, n_107, n_11] at e0
  rw [k1, bV_s, k146, bI_s] at e0
  generalize hI0 : wI (wI I 205 1 (nI 0)) 205 5 (nI 0) = I0 at e0
  have f0 : FA I0 I := fun c h h' => by rw [← hI0, wI_F1 c h, wI_F1 c h]
  have g1 : I0 205 1 = nI 0 := by rw [← hI0, wI_nk (by decide), wI_eq]
  have g5 : I0 205 5 = nI 0 := by rw [← hI0, wI_eq]
  have hX0 : FX L xs I0 := hX.fa f0
  have hL0 : SlC I0 W H Y := hL.fa f0
  have hR0 : Rep I0 1 s := hR.fr hW fun a h1 h2 h3 => f0 a (by omega) (by omega)
  have none' : ¬ okAc s W H x y → am_cal (d + 9) 134 [.ref 0, .int x, .int y, .int z] (mS I J) = some (some (.int (nI 0)), mS I0 J) → ∃ I', FA I' I ∧ TrC I' (v_act s W H x y z).2.1 (v_act s W H x y z).2.2.1 ∧ am_cal (d + 9) 134 [.ref 0, .int x, .int y, .int z] (mS I J) = some (some (.int (v_act s W H x y z).1), mS I' J) := fun hn h => by
    unfold v_act
    rw [if_neg hn]
    exact ⟨I0, f0, ⟨g1, by decide, fun j hj => absurd hj (Nat.not_lt_zero j)⟩, h⟩
  by_cases hx : isSh x
  · rw [if_pos hx, if_neg (by decide)] at e0
    by_cases h0 : y < 0
    · rw [if_pos h0] at e0
      exact none' (fun h => h.2.1.1 h0) e0
    · rw [if_neg h0] at e0
      by_cases h3 : nI 3 < y
      · rw [if_pos h3] at e0
        exact none' (fun h => h.2.1.2 h3) e0
      · rw [if_neg h3] at e0
        obtain ⟨q, hq, rfl⟩ := isSh_n hx
        have i0c : (nI (q)).toNatClampNeg = q := nI_clamp (by omega)
        have i0z : (nI (q) < 0) = False := n_ge0 (by omega)
        have i0l : (4 ≤ q) = False := n_lef (by omega)
        obtain ⟨v, hv, e1⟩ := k141 (d := d + 6) (J := J) hL0 hR0 hq
        rw [e1, bI_s] at e0
        have two : hd s W H q < 2 → ∃ I', FA I' I ∧ TrC I' (v_act s W H (nI q) y z).2.1 (v_act s W H (nI q) y z).2.2.1 ∧ am_cal (d + 9) 134 [.ref 0, .int (nI q), .int y, .int z] (mS I J) = some (some (.int (v_act s W H (nI q) y z).1), mS I' J) := fun hh => by
          obtain ⟨k, j1, j7, ek⟩ := kd_rng hW hh
          have kc : (nI k).toNatClampNeg = k := nI_clamp (by omega)
          have ho : okAc s W H (nI q) y := ⟨hx, ⟨h0, h3⟩, by rw [i0c]; exact hh⟩
          have hb : ¬ v = Int32.ofInt (-1) ∧ v < nI 10 := by
            rcases hv with ⟨_, e⟩ | ⟨_, e⟩ | ⟨e, _⟩ | ⟨e, _⟩
            · rw [e]; exact ⟨by decide, by decide⟩
            · rw [e]; exact ⟨by decide, by decide⟩
            · omega
            · omega
          rw [if_neg hb.1, if_pos hb.2] at e0
          have h142 := k142 (d := d + 7) (J := J) hL0 hR0 hW hq hh
          rw [ek] at h142
          unfold v_act
          rw [if_pos ho, i0c, ek, kc]
          obtain ⟨I1, b1, b2, b3⟩ := k2 (d := d) (J := J) (n := H q) (a := ab s W H q) (y := y) (x := z) hX0 j1 j7 g1 g5
          refine ⟨I1, b1.tr f0, b2, ?_⟩
          unfold hd at hh hv
          rcases hL0 q hq with ⟨a1, a2, a3⟩ | ⟨a1, a2, a3⟩ | ⟨a1, _⟩ | ⟨a1, _⟩
          · rw [if_pos a1] at hh hv
            by_cases hp : isP s (H q)
            · rw [if_pos hp] at hh hv
              have hv0 : v = nI 0 := by
                rcases hv with ⟨_, e⟩ | ⟨e, _⟩ | ⟨e, _⟩ | ⟨e, _⟩
                · exact e
                · omega
                · omega
                · omega
              obtain ⟨p, hp', e⟩ := isP_n hW hp
              have hp12 := hW.nP.1
              rw [e] at a3
              have i1c : (nI (p)).toNatClampNeg = p := nI_clamp (by omega)
              have i1z : (nI (p) < 0) = False := n_ge0 (by omega)
              have i1l : (12 ≤ p) = False := n_lef (by omega)
              have eab : ab s W H q = pF s p 4 := by unfold ab; rw [if_pos a1, e, i1c]
              rw [e0, hv0]
              rw [eab, e] at b3
              simp only [lc_0, lr_0_0, lr_0_9, lr_0_15, lc_228, ll_228, i0c, i0z, i0l, i1c, i1z, i1l, a3, z_t, w_C W1, w_R0 W1, w_C1 W1, w_L1 W1, w_rp W1 (show p < 12 by omega), w_cp W1 (show p < 12 by omega), hR0.pF hp' (show 4 < 8 by decide), n_101, h142, bq_s, mS_c, mS_l, mS_r, mS_i, mS_j, mS_pi, mS_pj, lt_st, bq_s, bV_s, bI_s, bJ_s, bA_s, nz_0, nc_0, nz_1, nc_1, nz_2, nc_2, nz_3, nc_3, nz_4, nc_4, nz_5, nc_5, nz_6, nc_6, nz_7, nc_7, nz_8, nc_8, nz_9, nc_9, nz_10, nc_10, nz_11, nc_11, nz_12, nc_12, if_true, if_false, eq_self, true_and, and_true, false_or, or_false, true_or, or_true, false_and, and_false, not_true, not_false_eq_true, ne_eq, ite_self, ite_not, ↓reduceIte, n_101, n_107, n_11]
              rw [b3, bI_s, eab, e]
            · rw [if_neg hp] at hh; omega
          · rw [if_neg (by omega), if_pos a1] at hh hv
            by_cases hp : isCl s (H q)
            · rw [if_pos hp] at hh hv
              have hv0 : v = nI 1 := by
                rcases hv with ⟨e, _⟩ | ⟨_, e⟩ | ⟨e, _⟩ | ⟨e, _⟩
                · omega
                · exact e
                · omega
                · omega
              obtain ⟨p, hp', e⟩ := isCl_n hW hp
              have hp12 := hW.nC.1
              rw [e] at a3
              have i1c : (nI (p)).toNatClampNeg = p := nI_clamp (by omega)
              have i1z : (nI (p) < 0) = False := n_ge0 (by omega)
              have i1l : (12 ≤ p) = False := n_lef (by omega)
              have eab : ab s W H q = cF s p 2 := by unfold ab; rw [if_neg (by omega), e, i1c]
              rw [e0, hv0]
              rw [eab, e] at b3
              simp only [lc_0, lr_0_0, lr_0_9, lr_0_15, lc_228, ll_228, i0c, i0z, i0l, i1c, i1z, i1l, a3, z_f, w_C W1, w_R2 W1, w_C3 W1, w_L3 W1, w_rc W1 (show p < 12 by omega), w_cc W1 (show p < 12 by omega), hR0.cF hp' (show 2 < 5 by decide), n_11, h142, bq_s, mS_c, mS_l, mS_r, mS_i, mS_j, mS_pi, mS_pj, lt_st, bq_s, bV_s, bI_s, bJ_s, bA_s, nz_0, nc_0, nz_1, nc_1, nz_2, nc_2, nz_3, nc_3, nz_4, nc_4, nz_5, nc_5, nz_6, nc_6, nz_7, nc_7, nz_8, nc_8, nz_9, nc_9, nz_10, nc_10, nz_11, nc_11, nz_12, nc_12, if_true, if_false, eq_self, true_and, and_true, false_or, or_false, true_or, or_true, false_and, and_false, not_true, not_false_eq_true, ne_eq, ite_self, ite_not, ↓reduceIte, n_101, n_107, n_11]
              rw [b3, bI_s, eab, e]
            · rw [if_neg hp] at hh; omega
          · rw [if_neg (by omega), if_neg (by omega)] at hh; omega
          · rw [if_neg (by omega), if_neg (by omega)] at hh; omega
        rcases hv with ⟨h1, h2⟩ | ⟨h1, h2⟩ | ⟨h1, t, ht, h2, h3'⟩ | ⟨h1, h2⟩
        · exact two (by omega)
        · exact two (by omega)
        · obtain ⟨t0, t1, t2⟩ := n_10t ht
          have l10 : ¬ nI (10 + t) < nI 10 := by rw [n_lt (by omega) (by decide)]; omega
          rw [h3', if_neg t2, if_neg l10] at e0
          exact none' (fun h => by have := h.2.2; rw [i0c] at this; omega) e0
        · rw [h2, if_pos rfl] at e0
          exact none' (fun h => by have := h.2.2; rw [i0c] at this; omega) e0
  · rw [if_neg hx, if_pos nI_0] at e0
    exact none' (fun h => hx h.1) e0
end I10s
