/-! ===== the reader of a COND: the model ===== -/
def MRes (T : Nat → Nat) (n : Nat) (I : mI) (J : mJ) (code : List Int32) (r : am_R) : PR → Prop
  | .inl p => ∃ I', FrM I' I ∧ p ≤ n ∧ I' 229 8 = nI p ∧ I' 229 13 = nI 1 ∧ r = some (none, mS I' J)
  | .inr (t', o) => ∃ I', FrM I' I ∧ LxM I' t' ∧ CdM I' (code ++ eMs o) ∧ I' 229 13 = nI 0 ∧ r = some (none, mS I' J)
abbrev MX (T : Nat → Nat) (n dp : Nat) (I : mI) (code : List Int32) (t : Tok) : Prop := TxM I T n ∧ LxM I t ∧ okQ T n t ∧ CdM I code ∧ I 229 13 = nI 0 ∧ code.length + 1 ≤ t.1 ∧ I 229 10 = nI dp
section J9s
variable {I I' : mI} {J : mJ} {d k n q p i c m a e b L j dp : Nat} {x y z u v : Int32} {T : Nat → Nat} {t t' : Tok} {w cs : List Nat} {xs : Nat → Int32} {o o' : List PO} {code : List Int32}
theorem m189w (hw : I 229 13 = nI 1) : am_cal (d + 1) 189 [.ref 229] (mS I J) = some (none, mS I J) := by
  rw [c_189 lc_229]
  simp only [lc_229, hw, z_f, lc_229, lr_229_0, lc_230, ll_230, bq_s, mS_c, mS_l, mS_r, mS_i, mS_j, mS_pi, mS_pj, lt_st, bq_s, bV_s, bI_s, bJ_s, bA_s, nz_0, nc_0, nz_1, nc_1, nz_2, nc_2, nz_3, nc_3, nz_4, nc_4, nz_5, nc_5, nz_6, nc_6, nz_7, nc_7, nz_8, nc_8, nz_9, nc_9, nz_10, nc_10, nz_11, nc_11, nz_12, nc_12, if_true, if_false, eq_self, true_and, and_true, false_or, or_false, true_or, or_true, false_and, and_false, not_true, not_false_eq_true, ne_eq, ite_self, ite_not, ↓reduceIte]
theorem m190w (hw : I 229 13 = nI 1) : am_cal (d + 1) 190 [.ref 229] (mS I J) = some (none, mS I J) := by
  rw [c_190 lc_229, e_190_2]
  simp only [lc_229, hw, z_f, lc_229, lr_229_0, lc_230, ll_230, bq_s, mS_c, mS_l, mS_r, mS_i, mS_j, mS_pi, mS_pj, lt_st, bq_s, bV_s, bI_s, bJ_s, bA_s, nz_0, nc_0, nz_1, nc_1, nz_2, nc_2, nz_3, nc_3, nz_4, nc_4, nz_5, nc_5, nz_6, nc_6, nz_7, nc_7, nz_8, nc_8, nz_9, nc_9, nz_10, nc_10, nz_11, nc_11, nz_12, nc_12, if_true, if_false, eq_self, true_and, and_true, false_or, or_false, true_or, or_true, false_and, and_false, not_true, not_false_eq_true, ne_eq, ite_self, ite_not, ↓reduceIte]
theorem m191w (hw : I 229 13 = nI 1) : am_cal (d + 2) 191 [.ref 229] (mS I J) = some (none, mS I J) := by
  rw [c_191 lc_229, m190w hw, bV_s, e_191_2]
  simp only [lc_229, hw, z_f, lc_229, lr_229_0, lc_230, ll_230, bq_s, mS_c, mS_l, mS_r, mS_i, mS_j, mS_pi, mS_pj, lt_st, bq_s, bV_s, bI_s, bJ_s, bA_s, nz_0, nc_0, nz_1, nc_1, nz_2, nc_2, nz_3, nc_3, nz_4, nc_4, nz_5, nc_5, nz_6, nc_6, nz_7, nc_7, nz_8, nc_8, nz_9, nc_9, nz_10, nc_10, nz_11, nc_11, nz_12, nc_12, if_true, if_false, eq_self, true_and, and_true, false_or, or_false, true_or, or_true, false_and, and_false, not_true, not_false_eq_true, ne_eq, ite_self, ite_not, ↓reduceIte]
theorem m192w (hw : I 229 13 = nI 1) : am_cal (d + 3) 192 [.ref 229] (mS I J) = some (none, mS I J) := by
  rw [c_192 lc_229, m191w hw, bV_s, e_192_2]
  simp only [lc_229, hw, z_f, lc_229, lr_229_0, lc_230, ll_230, bq_s, mS_c, mS_l, mS_r, mS_i, mS_j, mS_pi, mS_pj, lt_st, bq_s, bV_s, bI_s, bJ_s, bA_s, nz_0, nc_0, nz_1, nc_1, nz_2, nc_2, nz_3, nc_3, nz_4, nc_4, nz_5, nc_5, nz_6, nc_6, nz_7, nc_7, nz_8, nc_8, nz_9, nc_9, nz_10, nc_10, nz_11, nc_11, nz_12, nc_12, if_true, if_false, eq_self, true_and, and_true, false_or, or_false, true_or, or_true, false_and, and_false, not_true, not_false_eq_true, ne_eq, ite_self, ite_not, ↓reduceIte]
theorem e97w (hw : I 229 13 = nI 1) : am_X (am_cal (d + 1)) 190 97 [.ref 229, .int x, .null] [] (mS I J) = some (none, mS I J) := by
  rw [e_190_97]
  by_cases h : x = 0
  · rw [if_pos h]
  · rw [if_neg h, m183w hw, bV_s]
theorem e89w (hw : I 229 13 = nI 1) : am_X (am_cal (d + 1)) 190 89 [.ref 229, .int x, .int y] [.int z, .ref 229] (mS I J) = some (none, mS I J) := by
  rw [e_190_89, m182w hw, bV_s, m189w hw, bV_s, m183w hw, bV_s, e97w hw]
theorem e61w (hw : I 229 13 = nI 1) (h10 : I 229 10 = nI (dp + 1)) : am_X (am_cal (d + 1)) 190 61 [.ref 229, .int x, .null] [.int z, .ref 229] (mS I J) = some (none, mS (wI I 229 10 (nI dp)) J) := by
  have hs : nI (dp + 1) - nI 1 = nI dp := n_pred
  rw [e_190_61, m182w hw, bV_s]
  simp only [lc_229, h10, hs, lc_229, lr_229_0, lc_230, ll_230, bq_s, mS_c, mS_l, mS_r, mS_i, mS_j, mS_pi, mS_pj, lt_st, bq_s, bV_s, bI_s, bJ_s, bA_s, nz_0, nc_0, nz_1, nc_1, nz_2, nc_2, nz_3, nc_3, nz_4, nc_4, nz_5, nc_5, nz_6, nc_6, nz_7, nc_7, nz_8, nc_8, nz_9, nc_9, nz_10, nc_10, nz_11, nc_11, nz_12, nc_12, if_true, if_false, eq_self, true_and, and_true, false_or, or_false, true_or, or_true, false_and, and_false, not_true, not_false_eq_true, ne_eq, ite_self, ite_not, ↓reduceIte]
  exact e97w (by rw [wI_nk (by decide)]; exact hw)
theorem bA_c (hT : okT T n) (hc : c < 256) : (bA T n k = nI c) = (k < n ∧ T k = c) := by
  unfold bA
  by_cases h : k < n
  · have := hT.2 k h
    rw [if_pos h, n_eq (by omega) (by omega)]
    exact propext ⟨fun hh => ⟨h, hh⟩, fun hh => hh.2⟩
  · rw [if_neg h]
    refine propext ⟨fun hh => ?_, fun hh => absurd hh.1 h⟩
    have h1 : ¬ nI c < 0 := nI_pos (by omega)
    rw [← hh] at h1
    exact absurd (show Int32.ofInt (-1) < 0 by decide) h1
/-- a number's value -/
theorem e189 (hT : okT T n) (hX : TxM I T n) (hL : LxM I t) (ht : okQ T n t) (hd : t.1 < n ∧ dgt (T t.1)) : ∀ f i, f + i = min 4 (t.2 - t.1) → am_X (am_cal d) 189 15 [.ref 229, .int (nI (nvU T t.1 i)), .int (nI (t.1 + i))] [] (mS I J) = am_X (am_cal d) 189 15 [.ref 229, .int (nI (nvT T t)), .int (nI (t.1 + min 4 (t.2 - t.1)))] [] (mS I J) := by
  have hn := hT.1
  have h2 := ht.1.2.1
  intro f
  induction f with
  | zero =>
    intro i hi
    have : i = min 4 (t.2 - t.1) := by omega
    subst this
    rfl
  | succ f ih =>
    intro i hi
    have hin : t.1 + i < n := by omega
    have i0c : (nI (t.1 + i)).toNatClampNeg = t.1 + i := nI_clamp (by omega)
    have i0z : (nI (t.1 + i) < 0) = False := n_ge0 (by omega)
    have i0l : (200 ≤ t.1 + i) = False := n_lef (by omega)
    have hdi := ht.2 (t.1 + i) (by omega) (by omega) hd.2
    have hb := hT.2 _ hin
    have ev : nI 10 * nI (nvU T t.1 i) + nI (T (t.1 + i)) - nI 48 = nI (nvU T t.1 (i + 1)) := by
      show _ = nI (nvU T t.1 i * 10 + (T (t.1 + i) - 48))
      rw [pk_mul, nI_add, n_sub (by omega), show 10 * nvU T t.1 i + T (t.1 + i) - 48 = nvU T t.1 i * 10 + (T (t.1 + i) - 48) by omega]
    rw [← ih (i + 1) (by omega), e_189_15]
    simp only [lc_229, lr_229_4, lc_233, ll_233, hL.1, hL.2, i0c, i0z, i0l, hX.2 _ hin, ev, nI_add, n_lt (show t.1 + i < 2 ^ 31 by omega) (show t.2 < 2 ^ 31 by omega), n_lt (show t.1 + i < 2 ^ 31 by omega) (show t.1 + 4 < 2 ^ 31 by omega), eq_true (show t.1 + i < t.2 by omega), eq_true (show t.1 + i < t.1 + 4 by omega), lc_229, lr_229_0, lc_230, ll_230, bq_s, mS_c, mS_l, mS_r, mS_i, mS_j, mS_pi, mS_pj, lt_st, bq_s, bV_s, bI_s, bJ_s, bA_s, nz_0, nc_0, nz_1, nc_1, nz_2, nc_2, nz_3, nc_3, nz_4, nc_4, nz_5, nc_5, nz_6, nc_6, nz_7, nc_7, nz_8, nc_8, nz_9, nc_9, nz_10, nc_10, nz_11, nc_11, nz_12, nc_12, if_true, if_false, eq_self, true_and, and_true, false_or, or_false, true_or, or_true, false_and, and_false, not_true, not_false_eq_true, ne_eq, ite_self, ite_not, ↓reduceIte]
    rfl
theorem MX.nx (hT : okT T n) (h : MX T n dp I code t) : ∃ I', FN I' I ∧ MX T n dp I' code (nx T n t) ∧ am_cal (d + 4) 182 [.ref 229, .int (nI 1)] (mS I J) = some (none, mS I' J) := by
  obtain ⟨hX, hL, ht, hC, hw, hr, h10⟩ := h
  obtain ⟨I', a1, a2, a3⟩ := m182t (d := d) (J := J) hT hX hL ht.1 hw
  have := nx_le (T := T) ht.1
  have := ht.1.1
  exact ⟨I', a1, ⟨hX.fn a1, a2, nx_q ht.1, hC.fn a1, by rw [a1.2 13 (by decide) (by decide)]; exact hw, by omega, by rw [a1.2 10 (by decide) (by decide)]; exact h10⟩, a3⟩
/-- written on: what is there then -/
theorem MX.em (h : MX T n dp I code t) (hb : code.length < 200) : ∃ I', FrM I' I ∧ (TxM I' T n ∧ LxM I' t ∧ CdM I' (code ++ [x]) ∧ I' 229 13 = nI 0 ∧ I' 229 10 = nI dp) ∧ am_cal (d + 1) 183 [.ref 229, .int x] (mS I J) = some (none, mS I' J) := by
  obtain ⟨hX, hL, ht, hC, hw, hr, h10⟩ := h
  obtain ⟨I', a1, ⟨b8, b9, b13⟩, a2, a3⟩ := m183 (d := d) (J := J) (x := x) hC hw hb
  exact ⟨I', a1, ⟨hX.fm a1, ⟨by rw [b8]; exact hL.1, by rw [b9]; exact hL.2⟩, a2, b13, by rw [a1.2 10 (by decide) (by decide) (by decide) (by decide)]; exact h10⟩, a3⟩
theorem m189 (hT : okT T n) (h : MX T n dp I code t) : (∃ l, opd T n t = some l ∧ ∃ I', FrM I' I ∧ MX T n dp I' (code ++ [nI l]) (nx T n t) ∧ am_cal (d + 5) 189 [.ref 229] (mS I J) = some (none, mS I' J)) ∨ (opd T n t = none ∧ ∃ I', FrM I' I ∧ TxM I' T n ∧ I' 229 8 = nI t.1 ∧ I' 229 13 = nI 1 ∧ I' 229 10 = nI dp ∧ am_cal (d + 5) 189 [.ref 229] (mS I J) = some (none, mS I' J)) := by
  have hn := hT.1
  obtain ⟨hX, hL, ht, hC, hw, hr, h10⟩ := id h
  have h1 := ht.1.1
  have h2 := ht.1.2.1
  have hb : code.length < 200 := by omega
  have e0 : am_cal (d + 5) 189 [.ref 229] (mS I J) = _ := c_189 lc_229
  simp only [lc_229, hw, z_t, hL.1, lc_229, lr_229_0, lc_230, ll_230, bq_s, mS_c, mS_l, mS_r, mS_i, mS_j, mS_pi, mS_pj, lt_st, bq_s, bV_s, bI_s, bJ_s, bA_s, nz_0, nc_0, nz_1, nc_1, nz_2, nc_2, nz_3, nc_3, nz_4, nc_4, nz_5, nc_5, nz_6, nc_6, nz_7, nc_7, nz_8, nc_8, nz_9, nc_9, nz_10, nc_10, nz_11, nc_11, nz_12, nc_12, if_true, if_false, eq_self, true_and, and_true, false_or, or_false, true_or, or_true, false_and, and_false, not_true, not_false_eq_true, ne_eq, ite_self, ite_not, ↓reduceIte] at e0
  rw [show d + 4 = d + 3 + 1 from rfl, m178 hT hX (show t.1 < 2 ^ 31 by omega), bI_s, show d + 3 + 1 = d + 2 + 2 from rfl, m180 hT, bI_s] at e0
  -- written, and read on
  have good : ∀ l, opd T n t = some l → t.1 < n → ∀ I2, FrM I2 I → (TxM I2 T n ∧ LxM I2 t ∧ CdM I2 (code ++ [nI l]) ∧ I2 229 13 = nI 0 ∧ I2 229 10 = nI dp) → ∃ I', FrM I' I ∧ MX T n dp I' (code ++ [nI l]) (nx T n t) ∧ am_cal (d + 4) 182 [.ref 229, .int (nI 1)] (mS I2 J) = some (none, mS I' J) := fun l hl htn I2 f2 hh => by
    obtain ⟨a1, a2, a3, a4, a5⟩ := hh
    obtain ⟨I3, b1, b2, b3⟩ := m182t (d := d) (J := J) hT a1 a2 ht.1 a4
    have q1 := nx_le (T := T) ht.1
    have q2 := ht.1.2.2 htn
    exact ⟨I3, (FrM.fn b1).tr f2, ⟨a1.fn b1, b2, nx_q ht.1, a3.fn b1, by rw [b1.2 13 (by decide) (by decide)]; exact a4, by rw [List.length_append]; show code.length + 1 + 1 ≤ _; omega, by rw [b1.2 10 (by decide) (by decide)]; exact a5⟩, b3⟩
  have bad : ∀ I2, FrM I2 I → (TxM I2 T n ∧ LxM I2 t ∧ I2 229 13 = nI 0 ∧ I2 229 10 = nI dp) → ∃ I', FrM I' I ∧ TxM I' T n ∧ I' 229 8 = nI t.1 ∧ I' 229 13 = nI 1 ∧ I' 229 10 = nI dp ∧ am_cal (d + 4) 182 [.ref 229, .int (nI 0)] (mS I2 J) = some (none, mS I' J) := fun I2 f2 hh => by
    obtain ⟨a1, a2, a4, a5⟩ := hh
    refine ⟨wI I2 229 13 (nI 1), ⟨fun a b c => by rw [wI_F1 a b]; exact f2.1 a b c, fun j a b c e => by rw [wI_nk e]; exact f2.2 j a b c e⟩, ⟨by rw [wI_nk (by decide)]; exact a1.1, fun k hk => by rw [wI_ne (by decide)]; exact a1.2 k hk⟩, by rw [wI_nk (by decide)]; exact a2.1, wI_eq, by rw [wI_nk (by decide)]; exact a5, ?_⟩
    rw [show d + 4 = d + 3 + 1 from rfl, m182f a4]
  by_cases hd : t.1 < n ∧ dgt (T t.1)
  · rw [if_pos hd, if_neg (by decide)] at e0
    have h189 := e189 (d := d + 4) (J := J) hT hX hL ht hd (min 4 (t.2 - t.1)) 0 (by omega)
    rw [show nvU T t.1 0 = 0 from rfl, show t.1 + 0 = t.1 from rfl] at h189
    simp only [lc_229, hL.1, lc_229, lr_229_0, lc_230, ll_230, bq_s, mS_c, mS_l, mS_r, mS_i, mS_j, mS_pi, mS_pj, lt_st, bq_s, bV_s, bI_s, bJ_s, bA_s, nz_0, nc_0, nz_1, nc_1, nz_2, nc_2, nz_3, nc_3, nz_4, nc_4, nz_5, nc_5, nz_6, nc_6, nz_7, nc_7, nz_8, nc_8, nz_9, nc_9, nz_10, nc_10, nz_11, nc_11, nz_12, nc_12, if_true, if_false, eq_self, true_and, and_true, false_or, or_false, true_or, or_true, false_and, and_false, not_true, not_false_eq_true, ne_eq, ite_self, ite_not, ↓reduceIte] at e0
    rw [show d + 2 + 2 = d + 4 from rfl, h189, e_189_15] at e0
    obtain ⟨I2, a1, a2, a3⟩ := h.em (d := d + 3) (J := J) (x := nI (nvT T t)) hb
    have hend : ¬ (t.1 + min 4 (t.2 - t.1) < t.2 ∧ t.1 + min 4 (t.2 - t.1) < t.1 + 4) := by omega
    have e1 : am_cal (d + 5) 189 [.ref 229] (mS I J) = if nI 4 < nI (t.2 - t.1) then (am_bV (am_cal (d + 4) 182 [.ref 229, .int (nI 0)] (mS I2 J)) fun S5 => some (none, S5)) else (am_bV (am_cal (d + 4) 182 [.ref 229, .int (nI 1)] (mS I2 J)) fun S6 => some (none, S6)) := by
      have hs : nI t.2 - nI t.1 = nI (t.2 - t.1) := n_sub h1
      rw [e0]
      by_cases hA : t.1 + min 4 (t.2 - t.1) < t.2
      · have hB : ¬ t.1 + min 4 (t.2 - t.1) < t.1 + 4 := fun h => hend ⟨hA, h⟩
        simp only [lc_229, hL.1, hL.2, nI_add, n_lt (show t.1 + min 4 (t.2 - t.1) < 2 ^ 31 by omega) (show t.2 < 2 ^ 31 by omega), n_lt (show t.1 + min 4 (t.2 - t.1) < 2 ^ 31 by omega) (show t.1 + 4 < 2 ^ 31 by omega), eq_true hA, eq_false hB, show d + 4 = d + 3 + 1 from rfl, a3, a2.2.1.1, a2.2.1.2, hs, lc_229, lr_229_0, lc_230, ll_230, bq_s, mS_c, mS_l, mS_r, mS_i, mS_j, mS_pi, mS_pj, lt_st, bq_s, bV_s, bI_s, bJ_s, bA_s, nz_0, nc_0, nz_1, nc_1, nz_2, nc_2, nz_3, nc_3, nz_4, nc_4, nz_5, nc_5, nz_6, nc_6, nz_7, nc_7, nz_8, nc_8, nz_9, nc_9, nz_10, nc_10, nz_11, nc_11, nz_12, nc_12, if_true, if_false, eq_self, true_and, and_true, false_or, or_false, true_or, or_true, false_and, and_false, not_true, not_false_eq_true, ne_eq, ite_self, ite_not, ↓reduceIte]
      · simp only [lc_229, hL.1, hL.2, nI_add, n_lt (show t.1 + min 4 (t.2 - t.1) < 2 ^ 31 by omega) (show t.2 < 2 ^ 31 by omega), eq_false hA, show d + 4 = d + 3 + 1 from rfl, a3, a2.2.1.1, a2.2.1.2, hs, lc_229, lr_229_0, lc_230, ll_230, bq_s, mS_c, mS_l, mS_r, mS_i, mS_j, mS_pi, mS_pj, lt_st, bq_s, bV_s, bI_s, bJ_s, bA_s, nz_0, nc_0, nz_1, nc_1, nz_2, nc_2, nz_3, nc_3, nz_4, nc_4, nz_5, nc_5, nz_6, nc_6, nz_7, nc_7, nz_8, nc_8, nz_9, nc_9, nz_10, nc_10, nz_11, nc_11, nz_12, nc_12, if_true, if_false, eq_self, true_and, and_true, false_or, or_false, true_or, or_true, false_and, and_false, not_true, not_false_eq_true, ne_eq, ite_self, ite_not, ↓reduceIte]
    by_cases h4 : t.2 - t.1 ≤ 4
    · have ho : opd T n t = some (nvT T t) := by unfold opd; rw [if_pos hd, if_pos h4]
      left
      obtain ⟨I3, b1, b2, b3⟩ := good _ ho hd.1 I2 a1 a2
      refine ⟨nvT T t, ho, I3, b1, b2, ?_⟩
      rw [e1, if_neg (by rw [n_lt (by decide) (by omega)]; omega), b3, bV_s]
    · have ho : opd T n t = none := by unfold opd; rw [if_pos hd, if_neg h4]
      right
      obtain ⟨I3, b1, b2, b3, b4, b5, b6⟩ := bad I2 a1 ⟨a2.1, a2.2.1, a2.2.2.2.1, a2.2.2.2.2⟩
      refine ⟨ho, I3, b1, b2, b3, b4, b5, ?_⟩
      rw [e1, if_pos (by rw [n_lt (by decide) (by omega)]; omega), b6, bV_s]
  · rw [if_neg hd, if_pos nI_0, show d + 2 + 2 = d + 4 from rfl, m188 hT hX hL ht.1, bI_s] at e0
    rw [show ([[100, 97, 121], [109, 97, 100, 101], [103, 97, 112], [107, 105, 110, 100], [97, 109, 111, 117, 110, 116], [104, 101, 108, 100]] : List (List Nat)) = txW 11 from rfl, plc_fnd] at e0
    obtain ⟨I2, a1, a2, a3⟩ := h.em (d := d + 3) (J := J) (x := nI 10000 + fI (fnd T t (txW 11) 0)) hb
    rw [show d + 4 = d + 3 + 1 from rfl, a3, bV_s] at e0
    cases hf : fnd T t (txW 11) 0 with
    | none =>
      have ho : opd T n t = none := by unfold opd; rw [if_neg hd, hf]
      right
      rw [hf, if_pos (show fI none < 0 by decide)] at e0
      obtain ⟨I3, b1, b2, b3, b4, b5, b6⟩ := bad I2 a1 ⟨a2.1, a2.2.1, a2.2.2.2.1, a2.2.2.2.2⟩
      refine ⟨ho, I3, b1, b2, b3, b4, b5, ?_⟩
      rw [e0, show d + 3 + 1 = d + 4 from rfl, b6, bV_s]
    | some j =>
      have hj := fnd_lt _ _ _ hf
      have hl : (txW 11).length = 6 := by decide
      have ho : opd T n t = some (10000 + j) := by unfold opd; rw [if_neg hd, hf]
      left
      rw [hf] at a2
      rw [show nI 10000 + fI (some j) = nI (10000 + j) from nI_add _ _] at a2
      rw [hf, if_neg (show ¬ fI (some j) < 0 from nI_pos (show j < 2 ^ 31 by omega))] at e0
      obtain ⟨I3, b1, b2, b3⟩ := good _ ho (opd_b ht ho).2 I2 a1 a2
      refine ⟨10000 + j, ho, I3, b1, b2, ?_⟩
      rw [e0, show d + 3 + 1 = d + 4 from rfl, b3, bV_s]
/-- the row of `not` -/
theorem e190n (hT : okT T n) : ∀ f g t (I : mI), n ≤ t.1 + f → g ≤ 1 → MX T n dp I code t → ∃ I', FN I' I ∧ MX T n dp I' code (ntU T n f g t).2 ∧ ¬ wdW T (ntU T n f g t).2 [110, 111, 116] ∧ am_X (am_cal (d + 4)) 190 2 [.ref 229, .int (nI g), .null] [] (mS I J) = am_X (am_cal (d + 4)) 190 2 [.ref 229, .int (nI (ntU T n f g t).1), .null] [] (mS I' J) := by
  have hn := hT.1
  have nw : ∀ t, okK n t → n ≤ t.1 → ¬ wdW T t [110, 111, 116] := fun t ht h hh => by
    have := wdW_nm (w := [110, 111, 116]) ht (show 10 < 12 by decide) (List.mem_cons_self ..) hh
    omega
  intro f
  induction f with
  | zero =>
    intro g t I hf hg h
    exact ⟨I, FN.rf, h, nw t h.2.2.1.1 (by omega), rfl⟩
  | succ f ih =>
    intro g t I hf hg h
    obtain ⟨hX, hL, ht, hC, hw, hr, h10⟩ := id h
    show ∃ I', FN I' I ∧ MX T n dp I' code (if wdW T t [110, 111, 116] then ntU T n f (1 - g) (nx T n t) else (g, t)).2 ∧ ¬ wdW T (if wdW T t [110, 111, 116] then ntU T n f (1 - g) (nx T n t) else (g, t)).2 [110, 111, 116] ∧ am_X (am_cal (d + 4)) 190 2 [.ref 229, .int (nI g), .null] [] (mS I J) = am_X (am_cal (d + 4)) 190 2 [.ref 229, .int (nI (if wdW T t [110, 111, 116] then ntU T n f (1 - g) (nx T n t) else (g, t)).1), .null] [] (mS I' J)
    by_cases hh : wdW T t [110, 111, 116]
    · rw [if_pos hh]
      obtain ⟨I1, a1, a2, a3⟩ := h.nx (d := d) (J := J) hT
      have q1 := nx_le (T := T) ht.1
      have q2 := wd_len ht.1 hh
      have q3 : ([110, 111, 116] : List Nat).length = 3 := rfl
      obtain ⟨I2, b1, b2, b3, b4⟩ := ih (1 - g) (nx T n t) I1 (by omega) (by omega) a2
      refine ⟨I2, b1.tr a1, b2, b3, ?_⟩
      rw [← b4, e_190_2]
      have h185 := m185_3 (d := d + 1) (J := J) hT hX hL ht.1 (show ltr 110 by decide) (show ltr 111 by decide) (show ltr 116 by decide)
      rw [if_pos hh] at h185
      simp only [lc_229, hw, z_t, h185, z_f, lc_229, lr_229_0, lc_230, ll_230, bq_s, mS_c, mS_l, mS_r, mS_i, mS_j, mS_pi, mS_pj, lt_st, bq_s, bV_s, bI_s, bJ_s, bA_s, nz_0, nc_0, nz_1, nc_1, nz_2, nc_2, nz_3, nc_3, nz_4, nc_4, nz_5, nc_5, nz_6, nc_6, nz_7, nc_7, nz_8, nc_8, nz_9, nc_9, nz_10, nc_10, nz_11, nc_11, nz_12, nc_12, if_true, if_false, eq_self, true_and, and_true, false_or, or_false, true_or, or_true, false_and, and_false, not_true, not_false_eq_true, ne_eq, ite_self, ite_not, ↓reduceIte]
      rcases (show g = 0 ∨ g = 1 by omega) with rfl | rfl
      · rw [if_pos nI_0, a3, bV_s]
      · rw [if_neg (by decide), a3, bV_s]
    · rw [if_neg hh]
      exact ⟨I, FN.rf, h, hh, rfl⟩
/-- `not` is written behind -/
theorem e97e {g : Nat} (hg : g ≤ 1) (h : MX T n dp I code t) (hb : code.length < 200) : ∃ I', FrM I' I ∧ LxM I' t ∧ CdM I' (code ++ eMs (ngO g)) ∧ I' 229 13 = nI 0 ∧ I' 229 10 = nI dp ∧ am_X (am_cal (d + 1)) 190 97 [.ref 229, .int (nI g), .null] [] (mS I J) = some (none, mS I' J) := by
  obtain ⟨hX, hL, ht, hC, hw, hr, h10⟩ := id h
  rcases (show g = 0 ∨ g = 1 by omega) with rfl | rfl
  · refine ⟨I, FrM.rf, hL, by show CdM I (code ++ []); rw [List.append_nil]; exact hC, hw, h10, ?_⟩
    rw [e_190_97, if_pos nI_0]
  · obtain ⟨I1, a1, a2, a3⟩ := h.em (d := d) (J := J) (x := nI 10010) hb
    refine ⟨I1, a1, a2.2.1, a2.2.2.1, a2.2.2.2.1, a2.2.2.2.2, ?_⟩
    rw [e_190_97, if_neg (by decide), a3, bV_s]
abbrev FrW (I' I : mI) : Prop := (∀ a, a ≠ 229 → a ≠ 234 → I' a = I a) ∧ ∀ j, j ≠ 8 → j ≠ 9 → j ≠ 10 → j ≠ 11 → j ≠ 13 → I' 229 j = I 229 j
theorem FrM.wk (h : FrM I' I) : FrW I' I := ⟨h.1, fun j a b _ c e => h.2 j a b c e⟩
theorem FrW.tr {I1 : mI} (h : FrW I' I1) (h2 : FrW I1 I) : FrW I' I := ⟨fun a b c => (h.1 a b c).trans (h2.1 a b c), fun j a b c e g => (h.2 j a b c e g).trans (h2.2 j a b c e g)⟩
theorem FrW.w10 : FrW (wI I 229 10 v) I := ⟨fun a b _ => wI_F1 a b, fun j _ _ h _ _ => wI_nk h⟩
theorem FrW.w13 : FrW (wI I 229 13 v) I := ⟨fun a b _ => wI_F1 a b, fun j _ _ _ _ h => wI_nk h⟩
theorem FrW.mm (h : FrW I' I) (h10 : I' 229 10 = I 229 10) : FrM I' I := ⟨h.1, fun j a b c e => by
  by_cases hj : j = 10
  · subst hj; exact h10
  · exact h.2 j a b hj c e⟩
theorem MX.w10 {dp' : Nat} (h : MX T n dp I code t) : MX T n dp' (wI I 229 10 (nI dp')) code t := by
  obtain ⟨hX, hL, ht, hC, hw, hr, h10⟩ := h
  exact ⟨⟨by rw [wI_nk (by decide)]; exact hX.1, fun k hk => by rw [wI_ne (by decide)]; exact hX.2 k hk⟩, ⟨by rw [wI_nk (by decide)]; exact hL.1, by rw [wI_nk (by decide)]; exact hL.2⟩, ht, ⟨by rw [wI_nk (by decide)]; exact hC.1, fun j hj => by rw [wI_ne (by decide)]; exact hC.2 j hj⟩, by rw [wI_nk (by decide)]; exact hw, hr, wI_eq⟩
theorem FrM.w10 (h : FrM I' I) (h10 : I 229 10 = nI dp) : FrM (wI I' 229 10 (nI dp)) I := ⟨fun a b c => by rw [wI_F1 a b]; exact h.1 a b c, fun j a b c e => by
  by_cases hj : j = 10
  · subst hj; rw [wI_eq, h10]
  · rw [wI_nk hj]; exact h.2 j a b c e⟩
theorem m190 (hT : okT T n) {cc : Nat} (hk : k ≤ 3) (hA : ∀ A, subK T n k = some A → ∀ (I : mI) (d : Nat) (code : List Int32) (t : Tok), MX T n (3 - k + 1) I code t → MRes T n I J code (am_cal (d + cc) 192 [.ref 229] (mS I J)) (A t)) (hA2 : ∀ A, subK T n k = some A → ∃ b, okR2 T n b A) (h : MX T n (3 - k) I code t) : MRes T n I J code (am_cal (d + cc + 6) 190 [.ref 229] (mS I J)) (oneG T n (subK T n k) t) := by
  have hn := hT.1
  obtain ⟨I1, a1, a2, a2', a3⟩ := e190n (d := d + cc + 1) (J := J) hT n 0 t I (by omega) (by decide) h
  obtain ⟨n1, n2, n3, n4⟩ := nt_ok (T := T) n 0 t h.2.2.1 (by decide)
  have e0 : am_cal (d + cc + 6) 190 [.ref 229] (mS I J) = _ := c_190 lc_229
  rw [show d + cc + 5 = d + cc + 1 + 4 from rfl, a3, e_190_2] at e0
  have hI10 := h.2.2.2.2.2.2
  unfold oneG
  generalize hr : ntU T n n 0 t = r at *
  obtain ⟨g, t1⟩ := r
  simp only at a2 a2' n1 n2 e0
  dsimp only
  obtain ⟨hX, hL, ht, hC, hw, hrm, h10⟩ := id a2
  have h1n := ht.1.2.1
  have h1l := ht.1.1
  have h185 := m185_3 (d := d + cc + 2) (J := J) hT hX hL ht.1 (show ltr 110 by decide) (show ltr 111 by decide) (show ltr 116 by decide)
  rw [if_neg a2'] at h185
  have v178 : ∀ (d : Nat), am_cal (d + 1) 178 [.ref 229, .int (nI t1.1)] (mS I1 J) = some (some (.int (bA T n t1.1)), mS I1 J) := fun d => m178 hT hX (by omega)
  simp only [lc_229, hw, z_t, show d + cc + 1 + 4 = d + cc + 2 + 3 from rfl, h185, hL.1, h10, bA_c hT (show 40 < 256 by decide), lc_229, lr_229_0, lc_230, ll_230, bq_s, mS_c, mS_l, mS_r, mS_i, mS_j, mS_pi, mS_pj, lt_st, bq_s, bV_s, bI_s, bJ_s, bA_s, nz_0, nc_0, nz_1, nc_1, nz_2, nc_2, nz_3, nc_3, nz_4, nc_4, nz_5, nc_5, nz_6, nc_6, nz_7, nc_7, nz_8, nc_8, nz_9, nc_9, nz_10, nc_10, nz_11, nc_11, nz_12, nc_12, if_true, if_false, eq_self, true_and, and_true, false_or, or_false, true_or, or_true, false_and, and_false, not_true, not_false_eq_true, ne_eq, ite_self, ite_not, ↓reduceIte] at e0
  rw [show d + cc + 2 + 3 = d + cc + 4 + 1 from rfl, v178, bI_s, show d + cc + 4 + 1 = d + cc + 5 from rfl] at e0
  simp only [lc_229, h10, bA_c hT (show 40 < 256 by decide), lc_229, lr_229_0, lc_230, ll_230, bq_s, mS_c, mS_l, mS_r, mS_i, mS_j, mS_pi, mS_pj, lt_st, bq_s, bV_s, bI_s, bJ_s, bA_s, nz_0, nc_0, nz_1, nc_1, nz_2, nc_2, nz_3, nc_3, nz_4, nc_4, nz_5, nc_5, nz_6, nc_6, nz_7, nc_7, nz_8, nc_8, nz_9, nc_9, nz_10, nc_10, nz_11, nc_11, nz_12, nc_12, if_true, if_false, eq_self, true_and, and_true, false_or, or_false, true_or, or_true, false_and, and_false, not_true, not_false_eq_true, ne_eq, ite_self, ite_not, ↓reduceIte] at e0
  have f1 : FrM I1 I := FrM.fn a1
  by_cases h40 : t1.1 < n ∧ T t1.1 = 40
  · rw [if_pos h40] at e0
    rw [if_pos h40]
    have l0 := ht.1.2.2 h40.1
    cases hsub : subK T n k with
    | none =>
      have k0 : k = 0 := by cases k with | zero => rfl | succ k => cases hsub
      subst k0
      rw [if_neg (show ¬ nI (3 - 0) < nI 3 by decide), e_190_42, show d + cc + 5 = d + cc + 4 + 1 from rfl, m182f hw, bV_s] at e0
      generalize hI2 : wI I1 229 13 (nI 1) = I2 at e0
      have g13 : I2 229 13 = nI 1 := by rw [← hI2, wI_eq]
      have g10 : I2 229 10 = nI (3 - 0) := by rw [← hI2, wI_nk (by decide)]; exact h10
      have g8 : I2 229 8 = nI t1.1 := by rw [← hI2, wI_nk (by decide)]; exact hL.1
      simp only [lc_229, g10, nI_add, lc_229, lr_229_0, lc_230, ll_230, bq_s, mS_c, mS_l, mS_r, mS_i, mS_j, mS_pi, mS_pj, lt_st, bq_s, bV_s, bI_s, bJ_s, bA_s, nz_0, nc_0, nz_1, nc_1, nz_2, nc_2, nz_3, nc_3, nz_4, nc_4, nz_5, nc_5, nz_6, nc_6, nz_7, nc_7, nz_8, nc_8, nz_9, nc_9, nz_10, nc_10, nz_11, nc_11, nz_12, nc_12, if_true, if_false, eq_self, true_and, and_true, false_or, or_false, true_or, or_true, false_and, and_false, not_true, not_false_eq_true, ne_eq, ite_self, ite_not, ↓reduceIte] at e0
      generalize hI3 : wI I2 229 10 (nI (3 - 0 + 1)) = I3 at e0
      have j13 : I3 229 13 = nI 1 := by rw [← hI3, wI_nk (by decide)]; exact g13
      have j10 : I3 229 10 = nI (3 - 0 + 1) := by rw [← hI3, wI_eq]
      have j8 : I3 229 8 = nI t1.1 := by rw [← hI3, wI_nk (by decide)]; exact g8
      have jX : TxM I3 T n := ⟨by rw [← hI3, ← hI2, wI_nk (by decide), wI_nk (by decide)]; exact hX.1, fun k hk => by rw [← hI3, ← hI2, wI_ne (by decide), wI_ne (by decide)]; exact hX.2 k hk⟩
      rw [show d + cc + 4 + 1 = d + cc + 2 + 3 from rfl, m192w j13, bV_s] at e0
      simp only [lc_229, j8, lc_229, lr_229_0, lc_230, ll_230, bq_s, mS_c, mS_l, mS_r, mS_i, mS_j, mS_pi, mS_pj, lt_st, bq_s, bV_s, bI_s, bJ_s, bA_s, nz_0, nc_0, nz_1, nc_1, nz_2, nc_2, nz_3, nc_3, nz_4, nc_4, nz_5, nc_5, nz_6, nc_6, nz_7, nc_7, nz_8, nc_8, nz_9, nc_9, nz_10, nc_10, nz_11, nc_11, nz_12, nc_12, if_true, if_false, eq_self, true_and, and_true, false_or, or_false, true_or, or_true, false_and, and_false, not_true, not_false_eq_true, ne_eq, ite_self, ite_not, ↓reduceIte] at e0
      rw [show d + cc + 2 + 3 = d + cc + 4 + 1 from rfl, m178 hT jX (show t1.1 < 2 ^ 31 by omega), bI_s] at e0
      simp only [e61w j13 j10, ite_self] at e0
      have hf3 : FrW I3 I := by rw [← hI3, ← hI2]; exact FrW.w10.tr (FrW.w13.tr f1.wk)
      exact ⟨_, (FrW.w10.tr hf3).mm (by rw [wI_eq, hI10]), by omega, by rw [wI_nk (by decide)]; exact j8, by rw [wI_nk (by decide)]; exact j13, e0⟩
    | some A =>
      have k1 : 1 ≤ k := by cases k with | zero => cases hsub | succ k => omega
      rw [if_pos (show nI (3 - k) < nI 3 by rw [n_lt (by omega) (by decide)]; omega), e_190_42] at e0
      obtain ⟨I2, b1, b2, b3⟩ := a2.nx (d := d + cc + 1) (J := J) hT
      rw [show d + cc + 5 = d + cc + 1 + 4 from rfl, b3, bV_s] at e0
      simp only [lc_229, b2.2.2.2.2.2.2, nI_add, lc_229, lr_229_0, lc_230, ll_230, bq_s, mS_c, mS_l, mS_r, mS_i, mS_j, mS_pi, mS_pj, lt_st, bq_s, bV_s, bI_s, bJ_s, bA_s, nz_0, nc_0, nz_1, nc_1, nz_2, nc_2, nz_3, nc_3, nz_4, nc_4, nz_5, nc_5, nz_6, nc_6, nz_7, nc_7, nz_8, nc_8, nz_9, nc_9, nz_10, nc_10, nz_11, nc_11, nz_12, nc_12, if_true, if_false, eq_self, true_and, and_true, false_or, or_false, true_or, or_true, false_and, and_false, not_true, not_false_eq_true, ne_eq, ite_self, ite_not, ↓reduceIte] at e0
      have b4 : MX T n (3 - k + 1) (wI I2 229 10 (nI (3 - k + 1))) code (nx T n t1) := b2.w10
      have fw2 : FrW (wI I2 229 10 (nI (3 - k + 1))) I := FrW.w10.tr ((FrM.fn b1).tr f1).wk
      generalize wI I2 229 10 (nI (3 - k + 1)) = I3 at b4 fw2 e0
      have hAt := hA A hsub I3 (d + 5) code (nx T n t1) b4
      rw [show d + 5 + cc = d + cc + 5 by omega] at hAt
      obtain ⟨bb, hok⟩ := hA2 A hsub
      have hgr := hok (nx T n t1) b4.2.2.1
      have q1 := nx_le (T := T) ht.1
      show MRes T n I J code _ (match A (nx T n t1) with | .inl p => .inl p | .inr (t2, o) => if t2.1 < n ∧ T t2.1 = 41 then .inr (nx T n t2, o ++ ngO g) else .inl t2.1)
      cases hc : A (nx T n t1) with
      | inl p =>
        rw [hc] at hAt
        obtain ⟨I4, c1, c2, c3, c4, c5⟩ := hAt
        have c10 : I4 229 10 = nI (3 - k + 1) := by rw [c1.2 10 (by decide) (by decide) (by decide) (by decide)]; exact b4.2.2.2.2.2.2
        rw [show d + cc + 1 + 4 = d + cc + 5 from rfl, c5, bV_s] at e0
        simp only [lc_229, c3, lc_229, lr_229_0, lc_230, ll_230, bq_s, mS_c, mS_l, mS_r, mS_i, mS_j, mS_pi, mS_pj, lt_st, bq_s, bV_s, bI_s, bJ_s, bA_s, nz_0, nc_0, nz_1, nc_1, nz_2, nc_2, nz_3, nc_3, nz_4, nc_4, nz_5, nc_5, nz_6, nc_6, nz_7, nc_7, nz_8, nc_8, nz_9, nc_9, nz_10, nc_10, nz_11, nc_11, nz_12, nc_12, if_true, if_false, eq_self, true_and, and_true, false_or, or_false, true_or, or_true, false_and, and_false, not_true, not_false_eq_true, ne_eq, ite_self, ite_not, ↓reduceIte] at e0
        rw [show d + cc + 5 = d + cc + 4 + 1 from rfl, m178 hT (b4.1.fm c1) (show p < 2 ^ 31 by omega), bI_s] at e0
        simp only [e61w c4 c10, ite_self] at e0
        exact ⟨_, (FrW.w10.tr (c1.wk.tr fw2)).mm (by rw [wI_eq, hI10]), c2, by rw [wI_nk (by decide)]; exact c3, by rw [wI_nk (by decide)]; exact c4, e0⟩
      | inr r =>
        obtain ⟨t2, o⟩ := r
        rw [hc] at hAt hgr
        obtain ⟨I4, c1, c2, c3, c4, c5⟩ := hAt
        obtain ⟨g1, g2, g3⟩ := hgr
        have c10 : I4 229 10 = nI (3 - k + 1) := by rw [c1.2 10 (by decide) (by decide) (by decide) (by decide)]; exact b4.2.2.2.2.2.2
        have g4 := g1.1.2.1
        have g5 := g1.1.1
        have hX4 : TxM I4 T n := b4.1.fm c1
        have hMX4 : MX T n (3 - k + 1) I4 (code ++ eMs o) t2 := ⟨hX4, c2, g1, c3, c4, by rw [List.length_append]; omega, c10⟩
        rw [show d + cc + 1 + 4 = d + cc + 5 from rfl, c5, bV_s] at e0
        simp only [lc_229, c2.1, lc_229, lr_229_0, lc_230, ll_230, bq_s, mS_c, mS_l, mS_r, mS_i, mS_j, mS_pi, mS_pj, lt_st, bq_s, bV_s, bI_s, bJ_s, bA_s, nz_0, nc_0, nz_1, nc_1, nz_2, nc_2, nz_3, nc_3, nz_4, nc_4, nz_5, nc_5, nz_6, nc_6, nz_7, nc_7, nz_8, nc_8, nz_9, nc_9, nz_10, nc_10, nz_11, nc_11, nz_12, nc_12, if_true, if_false, eq_self, true_and, and_true, false_or, or_false, true_or, or_true, false_and, and_false, not_true, not_false_eq_true, ne_eq, ite_self, ite_not, ↓reduceIte] at e0
        rw [show d + cc + 5 = d + cc + 4 + 1 from rfl, m178 hT hX4 (show t2.1 < 2 ^ 31 by omega), bI_s] at e0
        simp only [bA_c hT (show 41 < 256 by decide)] at e0
        show MRes T n I J code _ (if t2.1 < n ∧ T t2.1 = 41 then .inr (nx T n t2, o ++ ngO g) else .inl t2.1)
        have hs3 : nI (3 - k + 1) - nI 1 = nI (3 - k) := n_pred
        by_cases h41 : t2.1 < n ∧ T t2.1 = 41
        · rw [if_pos h41, e_190_61] at e0
          rw [if_pos h41]
          obtain ⟨I5, d1, d2, d3⟩ := hMX4.nx (d := d + cc + 1) (J := J) hT
          rw [show d + cc + 4 + 1 = d + cc + 1 + 4 from rfl, d3, bV_s] at e0
          simp only [lc_229, d2.2.2.2.2.2.2, hs3, lc_229, lr_229_0, lc_230, ll_230, bq_s, mS_c, mS_l, mS_r, mS_i, mS_j, mS_pi, mS_pj, lt_st, bq_s, bV_s, bI_s, bJ_s, bA_s, nz_0, nc_0, nz_1, nc_1, nz_2, nc_2, nz_3, nc_3, nz_4, nc_4, nz_5, nc_5, nz_6, nc_6, nz_7, nc_7, nz_8, nc_8, nz_9, nc_9, nz_10, nc_10, nz_11, nc_11, nz_12, nc_12, if_true, if_false, eq_self, true_and, and_true, false_or, or_false, true_or, or_true, false_and, and_false, not_true, not_false_eq_true, ne_eq, ite_self, ite_not, ↓reduceIte] at e0
          have d4 : MX T n (3 - k) (wI I5 229 10 (nI (3 - k))) (code ++ eMs o) (nx T n t2) := d2.w10
          have fw5 : FrW (wI I5 229 10 (nI (3 - k))) I := FrW.w10.tr ((FrM.fn d1).wk.tr (c1.wk.tr fw2))
          generalize wI I5 229 10 (nI (3 - k)) = I6 at d4 fw5 e0
          have q3 := nx_le (T := T) g1.1
          have q4 := d4.2.2.1.1.2.1
          have q5 := d4.2.2.1.1.1
          obtain ⟨I7, f1', f2, f3, f4, f5, f6⟩ := e97e (d := d + cc + 4) (J := J) n2 d4 (by have := d4.2.2.2.2.2.1; omega)
          rw [show d + cc + 1 + 4 = d + cc + 4 + 1 from rfl, f6] at e0
          rw [List.append_assoc, ← eMs_app] at f3
          exact ⟨I7, (f1'.wk.tr fw5).mm (by rw [f5, hI10]), f2, f3, f4, e0⟩
        · rw [if_neg h41, e_190_61, m182f c4, bV_s] at e0
          rw [if_neg h41]
          have gg10 : wI I4 229 13 (nI 1) 229 10 = nI (3 - k + 1) := by rw [wI_nk (by decide)]; exact c10
          simp only [lc_229, gg10, hs3, lc_229, lr_229_0, lc_230, ll_230, bq_s, mS_c, mS_l, mS_r, mS_i, mS_j, mS_pi, mS_pj, lt_st, bq_s, bV_s, bI_s, bJ_s, bA_s, nz_0, nc_0, nz_1, nc_1, nz_2, nc_2, nz_3, nc_3, nz_4, nc_4, nz_5, nc_5, nz_6, nc_6, nz_7, nc_7, nz_8, nc_8, nz_9, nc_9, nz_10, nc_10, nz_11, nc_11, nz_12, nc_12, if_true, if_false, eq_self, true_and, and_true, false_or, or_false, true_or, or_true, false_and, and_false, not_true, not_false_eq_true, ne_eq, ite_self, ite_not, ↓reduceIte] at e0
          rw [e97w (by rw [wI_nk (by decide), wI_eq])] at e0
          exact ⟨_, (FrW.w10.tr (FrW.w13.tr (c1.wk.tr fw2))).mm (by rw [wI_eq, hI10]), by omega, by rw [wI_nk (by decide), wI_nk (by decide)]; exact c2.1, by rw [wI_nk (by decide), wI_eq], e0⟩
  · rw [if_neg h40] at e0
    rw [if_neg h40]
    have chain : ∀ (v : Int32) (A B : am_R), (if v = nI 60 then A else if v = nI 61 then A else if v = nI 62 then A else B) = if v = nI 60 ∨ v = nI 61 ∨ v = nI 62 then A else B := fun v A B => by
      by_cases h0 : v = nI 60
      · rw [if_pos h0, if_pos (Or.inl h0)]
      · rw [if_neg h0]
        by_cases h1 : v = nI 61
        · rw [if_pos h1, if_pos (Or.inr (Or.inl h1))]
        · rw [if_neg h1]
          by_cases h2 : v = nI 62
          · rw [if_pos h2, if_pos (Or.inr (Or.inr h2))]
          · rw [if_neg h2, if_neg]
            rintro (h | h | h)
            · exact h0 h
            · exact h1 h
            · exact h2 h
    have hsg : ∀ k, (bA T n k = nI 60 ∨ bA T n k = nI 61 ∨ bA T n k = nI 62) = (k < n ∧ 60 ≤ T k ∧ T k ≤ 62) := fun k => by
      rw [bA_c hT (show 60 < 256 by decide), bA_c hT (show 61 < 256 by decide), bA_c hT (show 62 < 256 by decide)]
      exact propext ⟨fun h => by rcases h with h | h | h <;> exact ⟨h.1, by omega, by omega⟩, fun h => by
        obtain ⟨h1, h2, h3⟩ := h
        rcases (show T k = 60 ∨ T k = 61 ∨ T k = 62 by omega) with e | e | e
        · exact Or.inl ⟨h1, e⟩
        · exact Or.inr (Or.inl ⟨h1, e⟩)
        · exact Or.inr (Or.inr ⟨h1, e⟩)⟩
    unfold cmpN
    rcases m189 (d := d + cc) (J := J) hT a2 with ⟨l, hl, I2, b1, b2, b3⟩ | ⟨hl, I2, b1, b2, b3, b4, b5, b6⟩
    · rw [b3, bV_s] at e0
      obtain ⟨hX2, hL2, ht2, hC2, hw2, hr2, h102⟩ := id b2
      have u1 := ht2.1.1
      have u2 := ht2.1.2.1
      simp only [lc_229, hL2.1, lc_229, lr_229_0, lc_230, ll_230, bq_s, mS_c, mS_l, mS_r, mS_i, mS_j, mS_pi, mS_pj, lt_st, bq_s, bV_s, bI_s, bJ_s, bA_s, nz_0, nc_0, nz_1, nc_1, nz_2, nc_2, nz_3, nc_3, nz_4, nc_4, nz_5, nc_5, nz_6, nc_6, nz_7, nc_7, nz_8, nc_8, nz_9, nc_9, nz_10, nc_10, nz_11, nc_11, nz_12, nc_12, if_true, if_false, eq_self, true_and, and_true, false_or, or_false, true_or, or_true, false_and, and_false, not_true, not_false_eq_true, ne_eq, ite_self, ite_not, ↓reduceIte] at e0
      rw [show d + cc + 5 = d + cc + 4 + 1 from rfl, m178 hT hX2 (show (nx T n t1).1 < 2 ^ 31 by omega), bI_s, e_190_86, chain] at e0
      simp only [hsg] at e0
      simp only [hl]
      by_cases hs : (nx T n t1).1 < n ∧ 60 ≤ T (nx T n t1).1 ∧ T (nx T n t1).1 ≤ 62
      · rw [if_pos hs, e_190_89] at e0
        rw [if_pos hs]
        obtain ⟨I3, c1, c2, c3⟩ := b2.nx (d := d + cc + 1) (J := J) hT
        rw [show d + cc + 4 + 1 = d + cc + 1 + 4 from rfl, c3, bV_s] at e0
        rcases m189 (d := d + cc) (J := J) hT c2 with ⟨r, hr', I4, d1, d2, d3⟩ | ⟨hr', I4, d1, d2, d3, d4, d5, d6⟩
        · simp only [hr']
          rw [show d + cc + 1 + 4 = d + cc + 5 from rfl, d3, bV_s] at e0
          have b1l := opd_b ht hl
          have b2l := opd_b c2.2.2.1 hr'
          have q0 := ht.1.2.2 b1l.2
          have q1 := nx_le (T := T) ht.1
          have q2 := ht2.1.2.2 hs.1
          have q3 := nx_le (T := T) ht2.1
          have q4 := c2.2.2.1.1.2.2 b2l.2
          have q5 := nx_le (T := T) c2.2.2.1.1
          have q6 := d2.2.2.1.1.2.1
          have q7 := d2.2.2.1.1.1
          have hbv : bA T n (nx T n t1).1 = nI (T (nx T n t1).1) := if_pos hs.1
          have hlen : (code ++ [nI l] ++ [nI r]).length = code.length + 2 := by rw [List.length_append, List.length_append]; rfl
          obtain ⟨I5, f1', f2, f3⟩ := d2.em (d := d + cc + 4) (J := J) (x := nI 10020 + bA T n (nx T n t1).1) (by omega)
          rw [show d + cc + 5 = d + cc + 4 + 1 from rfl, f3, bV_s] at e0
          have hMX5 : MX T n (3 - k) I5 (code ++ [nI l] ++ [nI r] ++ [nI 10020 + bA T n (nx T n t1).1]) (nx T n (nx T n (nx T n t1))) := ⟨f2.1, f2.2.1, d2.2.2.1, f2.2.2.1, f2.2.2.2.1, by rw [List.length_append, hlen]; show code.length + 2 + 1 + 1 ≤ _; omega, f2.2.2.2.2⟩
          obtain ⟨I7, g1, g2, g3, g4, g5, g6⟩ := e97e (d := d + cc + 4) (J := J) n2 hMX5 (by rw [List.length_append, hlen]; show code.length + 2 + 1 < 200; omega)
          have ecode : code ++ [nI l] ++ [nI r] ++ [nI 10020 + bA T n (nx T n t1).1] ++ eMs (ngO g) = code ++ eMs ([(0, T (nx T n t1).1 - 60, l, r)] ++ ngO g) := by
            rw [eMs_app, hbv, nI_add, show 10020 + T (nx T n t1).1 = 10080 + (T (nx T n t1).1 - 60) by omega]
            show _ = code ++ ((eM (0, T (nx T n t1).1 - 60, l, r) ++ []) ++ eMs (ngO g))
            rw [List.append_nil, show eM (0, T (nx T n t1).1 - 60, l, r) = [nI l, nI r, nI (10080 + (T (nx T n t1).1 - 60))] from rfl]
            simp only [List.append_assoc, List.cons_append, List.nil_append]
          rw [ecode] at g3
          exact ⟨I7, g1.tr (f1'.tr (d1.tr ((FrM.fn c1).tr (b1.tr f1)))), g2, g3, g4, by rw [e0]; exact g6⟩
        · simp only [hr']
          rw [show d + cc + 1 + 4 = d + cc + 5 from rfl, d6, bV_s, show d + cc + 5 = d + cc + 4 + 1 from rfl, m183w d4, bV_s, e97w d4] at e0
          exact ⟨I4, d1.tr ((FrM.fn c1).tr (b1.tr f1)), by have := c2.2.2.1.1; omega, d3, d4, e0⟩
      · rw [if_neg hs, e_190_89, m182f hw2, bV_s] at e0
        rw [if_neg hs]
        have g13 : wI I2 229 13 (nI 1) 229 13 = nI 1 := wI_eq
        rw [m189w g13, bV_s, m183w g13, bV_s, e97w g13] at e0
        exact ⟨_, (FrW.w13.tr (b1.tr f1).wk).mm (by rw [wI_nk (by decide), h102, hI10]), by omega, by rw [wI_nk (by decide)]; exact hL2.1, wI_eq, e0⟩
    · rw [b6, bV_s] at e0
      simp only [lc_229, b3, lc_229, lr_229_0, lc_230, ll_230, bq_s, mS_c, mS_l, mS_r, mS_i, mS_j, mS_pi, mS_pj, lt_st, bq_s, bV_s, bI_s, bJ_s, bA_s, nz_0, nc_0, nz_1, nc_1, nz_2, nc_2, nz_3, nc_3, nz_4, nc_4, nz_5, nc_5, nz_6, nc_6, nz_7, nc_7, nz_8, nc_8, nz_9, nc_9, nz_10, nc_10, nz_11, nc_11, nz_12, nc_12, if_true, if_false, eq_self, true_and, and_true, false_or, or_false, true_or, or_true, false_and, and_false, not_true, not_false_eq_true, ne_eq, ite_self, ite_not, ↓reduceIte] at e0
      rw [show d + cc + 5 = d + cc + 4 + 1 from rfl, m178 hT b2 (show t1.1 < 2 ^ 31 by omega), bI_s, e_190_86] at e0
      simp only [e89w b4, ite_self] at e0
      simp only [hl]
      exact ⟨I2, b1.tr f1, by omega, b3, b4, e0⟩

/-- method 191 -/
theorem e191l (hT : okT T n) {P : Tok → PR} {b cc : Nat} (hP2 : okR2 T n b P) (hP : ∀ (I : mI) (code : List Int32) (t : Tok), MX T n dp I code t → MRes T n I J code (am_cal (d + 4) 190 [.ref 229] (mS I J)) (P t)) : ∀ f t o (I1 : mI), n ≤ t.1 + f → FrM I1 I → MX T n dp I1 (code ++ eMs o) t → MRes T n I J code (am_X (am_cal (d + 4)) 191 2 [.ref 229] [] (mS I1 J)) (lpU T n [97, 110, 100] (2, 0, 0, 0) P f t o) := by
  have hn := hT.1
  have nw : ∀ t, okK n t → n ≤ t.1 → ¬ wdW T t [97, 110, 100] := fun t ht h hh => by
    have := wdW_nm (w := [97, 110, 100]) ht (show 9 < 12 by decide) (List.mem_cons_self ..) hh
    omega
  have quit : ∀ t o (I1 : mI), FrM I1 I → MX T n dp I1 (code ++ eMs o) t → ¬ wdW T t [97, 110, 100] → MRes T n I J code (am_X (am_cal (d + 4)) 191 2 [.ref 229] [] (mS I1 J)) (.inr (t, o)) := fun t o I1 hfr h hh => by
    obtain ⟨hX, hL, ht, hC, hw, hr, h10⟩ := id h
    have h185 := m185_3 (d := d + 1) (J := J) hT hX hL ht.1 (show ltr 97 by decide) (show ltr 110 by decide) (show ltr 100 by decide)
    rw [if_neg hh] at h185
    refine ⟨I1, hfr, hL, hC, hw, ?_⟩
    rw [e_191_2]
    simp only [lc_229, hw, z_t, show d + 4 = d + 1 + 3 from rfl, h185, lc_229, lr_229_0, lc_230, ll_230, bq_s, mS_c, mS_l, mS_r, mS_i, mS_j, mS_pi, mS_pj, lt_st, bq_s, bV_s, bI_s, bJ_s, bA_s, nz_0, nc_0, nz_1, nc_1, nz_2, nc_2, nz_3, nc_3, nz_4, nc_4, nz_5, nc_5, nz_6, nc_6, nz_7, nc_7, nz_8, nc_8, nz_9, nc_9, nz_10, nc_10, nz_11, nc_11, nz_12, nc_12, if_true, if_false, eq_self, true_and, and_true, false_or, or_false, true_or, or_true, false_and, and_false, not_true, not_false_eq_true, ne_eq, ite_self, ite_not, ↓reduceIte]
  intro f
  induction f with
  | zero =>
    intro t o I1 hf hfr h
    exact quit t o I1 hfr h (nw t h.2.2.1.1 (by omega))
  | succ f ih =>
    intro t o I1 hf hfr h
    obtain ⟨hX, hL, ht, hC, hw, hr, h10⟩ := id h
    show MRes T n I J code _ (if wdW T t [97, 110, 100] then (match P (nx T n t) with | .inl p => .inl p | .inr (t', o') => lpU T n [97, 110, 100] (2, 0, 0, 0) P f t' (o ++ (o' ++ [(2, 0, 0, 0)]))) else .inr (t, o))
    by_cases hh : wdW T t [97, 110, 100]
    · rw [if_pos hh]
      have h185 := m185_3 (d := d + 1) (J := J) hT hX hL ht.1 (show ltr 97 by decide) (show ltr 110 by decide) (show ltr 100 by decide)
      rw [if_pos hh] at h185
      have e0 : am_X (am_cal (d + 4)) 191 2 [.ref 229] [] (mS I1 J) = _ := e_191_2
      obtain ⟨I2, a1, a2, a3⟩ := h.nx (d := d) (J := J) hT
      simp only [lc_229, hw, z_t, show d + 4 = d + 1 + 3 from rfl, h185, z_f, lc_229, lr_229_0, lc_230, ll_230, bq_s, mS_c, mS_l, mS_r, mS_i, mS_j, mS_pi, mS_pj, lt_st, bq_s, bV_s, bI_s, bJ_s, bA_s, nz_0, nc_0, nz_1, nc_1, nz_2, nc_2, nz_3, nc_3, nz_4, nc_4, nz_5, nc_5, nz_6, nc_6, nz_7, nc_7, nz_8, nc_8, nz_9, nc_9, nz_10, nc_10, nz_11, nc_11, nz_12, nc_12, if_true, if_false, eq_self, true_and, and_true, false_or, or_false, true_or, or_true, false_and, and_false, not_true, not_false_eq_true, ne_eq, ite_self, ite_not, ↓reduceIte] at e0
      rw [show d + 1 + 3 = d + 4 from rfl, a3, bV_s] at e0
      have hPt := hP I2 _ _ a2
      have hgr := hP2 (nx T n t) a2.2.2.1
      have q1 := nx_le (T := T) ht.1
      have q2 := wd_len ht.1 hh
      have q3 : ([97, 110, 100] : List Nat).length = 3 := rfl
      cases hc : P (nx T n t) with
      | inl p =>
        rw [hc] at hPt
        obtain ⟨I3, c1, c2, c3, c4, c5⟩ := hPt
        rw [c5, bV_s, show d + 4 = d + 3 + 1 from rfl, m183w c4, bV_s] at e0
        have e1 : am_X (am_cal (d + 3 + 1)) 191 2 [.ref 229] [] (mS I3 J) = some (none, mS I3 J) := by
          rw [e_191_2]
          simp only [lc_229, c4, z_f, lc_229, lr_229_0, lc_230, ll_230, bq_s, mS_c, mS_l, mS_r, mS_i, mS_j, mS_pi, mS_pj, lt_st, bq_s, bV_s, bI_s, bJ_s, bA_s, nz_0, nc_0, nz_1, nc_1, nz_2, nc_2, nz_3, nc_3, nz_4, nc_4, nz_5, nc_5, nz_6, nc_6, nz_7, nc_7, nz_8, nc_8, nz_9, nc_9, nz_10, nc_10, nz_11, nc_11, nz_12, nc_12, if_true, if_false, eq_self, true_and, and_true, false_or, or_false, true_or, or_true, false_and, and_false, not_true, not_false_eq_true, ne_eq, ite_self, ite_not, ↓reduceIte]
        exact ⟨I3, c1.tr ((FrM.fn a1).tr hfr), c2, c3, c4, e0.trans e1⟩
      | inr r =>
        obtain ⟨t2, o2⟩ := r
        rw [hc] at hPt hgr
        obtain ⟨I3, c1, c2, c3, c4, c5⟩ := hPt
        obtain ⟨g1, g2, g3⟩ := hgr
        have g4 := g1.1.2.1
        have g5 := g1.1.1
        have c10 : I3 229 10 = nI dp := by rw [c1.2 10 (by decide) (by decide) (by decide) (by decide)]; exact a2.2.2.2.2.2.2
        have hl0 : (code ++ eMs o ++ eMs o2).length + 2 ≤ t2.1 := by rw [List.length_append]; omega
        have hMX3 : MX T n dp I3 (code ++ eMs o ++ eMs o2) t2 := ⟨a2.1.fm c1, c2, g1, c3, c4, by omega, c10⟩
        obtain ⟨I4, d1, d2, d3⟩ := hMX3.em (d := d + 3) (J := J) (x := nI 10011) (by omega)
        rw [c5, bV_s, show d + 4 = d + 3 + 1 from rfl, d3, bV_s] at e0
        have eq1 : (code ++ eMs o ++ eMs o2) ++ [nI 10011] = code ++ eMs (o ++ (o2 ++ [(2, 0, 0, 0)])) := by
          rw [eMs_app, eMs_app, show eMs [((2, 0, 0, 0) : PO)] = [nI 10011] from rfl]
          simp only [List.append_assoc]
        rw [eq1] at d2
        have hMX4 : MX T n dp I4 (code ++ eMs (o ++ (o2 ++ [(2, 0, 0, 0)]))) t2 := ⟨d2.1, d2.2.1, g1, d2.2.2.1, d2.2.2.2.1, by rw [← eq1, List.length_append]; show (code ++ eMs o ++ eMs o2).length + 1 + 1 ≤ t2.1; omega, d2.2.2.2.2⟩
        have := ih t2 _ I4 (by omega) (d1.tr (c1.tr ((FrM.fn a1).tr hfr))) hMX4
        rw [← e0] at this
        exact this
    · rw [if_neg hh]
      exact quit t o I1 hfr h hh
theorem m191 (hT : okT T n) {sub : Option (Tok → PR)} {b : Nat} (hP2 : okR2 T n b (oneG T n sub)) (hP : ∀ (I : mI) (code : List Int32) (t : Tok), MX T n dp I code t → MRes T n I J code (am_cal (d + 4) 190 [.ref 229] (mS I J)) (oneG T n sub t)) (h : MX T n dp I code t) : MRes T n I J code (am_cal (d + 5) 191 [.ref 229] (mS I J)) (allG T n sub t) := by
  have hn := hT.1
  have e0 : am_cal (d + 5) 191 [.ref 229] (mS I J) = _ := c_191 lc_229
  have hPt := hP I code t h
  have hgr := hP2 t h.2.2.1
  unfold allG
  cases hc : oneG T n sub t with
  | inl p =>
    rw [hc] at hPt
    obtain ⟨I3, c1, c2, c3, c4, c5⟩ := hPt
    rw [c5, bV_s, e_191_2] at e0
    simp only [lc_229, c4, z_f, lc_229, lr_229_0, lc_230, ll_230, bq_s, mS_c, mS_l, mS_r, mS_i, mS_j, mS_pi, mS_pj, lt_st, bq_s, bV_s, bI_s, bJ_s, bA_s, nz_0, nc_0, nz_1, nc_1, nz_2, nc_2, nz_3, nc_3, nz_4, nc_4, nz_5, nc_5, nz_6, nc_6, nz_7, nc_7, nz_8, nc_8, nz_9, nc_9, nz_10, nc_10, nz_11, nc_11, nz_12, nc_12, if_true, if_false, eq_self, true_and, and_true, false_or, or_false, true_or, or_true, false_and, and_false, not_true, not_false_eq_true, ne_eq, ite_self, ite_not, ↓reduceIte] at e0
    exact ⟨I3, c1, c2, c3, c4, e0⟩
  | inr r =>
    obtain ⟨t2, o2⟩ := r
    rw [hc] at hPt hgr
    obtain ⟨I3, c1, c2, c3, c4, c5⟩ := hPt
    obtain ⟨g1, g2, g3⟩ := hgr
    have hr := h.2.2.2.2.2.1
    have c10 : I3 229 10 = nI dp := by rw [c1.2 10 (by decide) (by decide) (by decide) (by decide)]; exact h.2.2.2.2.2.2
    rw [c5, bV_s] at e0
    have hMX3 : MX T n dp I3 (code ++ eMs o2) t2 := ⟨h.1.fm c1, c2, g1, c3, c4, by rw [List.length_append]; omega, c10⟩
    have := e191l (cc := 0) hT hP2 hP n t2 o2 I3 (by omega) c1 hMX3
    rw [← e0] at this
    exact this

/-- method 192 -/
theorem e192l (hT : okT T n) {P : Tok → PR} {b cc : Nat} (hP2 : okR2 T n b P) (hP : ∀ (I : mI) (code : List Int32) (t : Tok), MX T n dp I code t → MRes T n I J code (am_cal (d + 4) 191 [.ref 229] (mS I J)) (P t)) : ∀ f t o (I1 : mI), n ≤ t.1 + f → FrM I1 I → MX T n dp I1 (code ++ eMs o) t → MRes T n I J code (am_X (am_cal (d + 4)) 192 2 [.ref 229] [] (mS I1 J)) (lpU T n [111, 114] (3, 0, 0, 0) P f t o) := by
  have hn := hT.1
  have nw : ∀ t, okK n t → n ≤ t.1 → ¬ wdW T t [111, 114] := fun t ht h hh => by
    have := wdW_nm (w := [111, 114]) ht (show 8 < 12 by decide) (List.mem_cons_self ..) hh
    omega
  have quit : ∀ t o (I1 : mI), FrM I1 I → MX T n dp I1 (code ++ eMs o) t → ¬ wdW T t [111, 114] → MRes T n I J code (am_X (am_cal (d + 4)) 192 2 [.ref 229] [] (mS I1 J)) (.inr (t, o)) := fun t o I1 hfr h hh => by
    obtain ⟨hX, hL, ht, hC, hw, hr, h10⟩ := id h
    have h185 := m185_2 (d := d + 1) (J := J) hT hX hL ht.1 (show ltr 111 by decide) (show ltr 114 by decide)
    rw [if_neg hh] at h185
    refine ⟨I1, hfr, hL, hC, hw, ?_⟩
    rw [e_192_2]
    simp only [lc_229, hw, z_t, show d + 4 = d + 1 + 3 from rfl, h185, lc_229, lr_229_0, lc_230, ll_230, bq_s, mS_c, mS_l, mS_r, mS_i, mS_j, mS_pi, mS_pj, lt_st, bq_s, bV_s, bI_s, bJ_s, bA_s, nz_0, nc_0, nz_1, nc_1, nz_2, nc_2, nz_3, nc_3, nz_4, nc_4, nz_5, nc_5, nz_6, nc_6, nz_7, nc_7, nz_8, nc_8, nz_9, nc_9, nz_10, nc_10, nz_11, nc_11, nz_12, nc_12, if_true, if_false, eq_self, true_and, and_true, false_or, or_false, true_or, or_true, false_and, and_false, not_true, not_false_eq_true, ne_eq, ite_self, ite_not, ↓reduceIte]
  intro f
  induction f with
  | zero =>
    intro t o I1 hf hfr h
    exact quit t o I1 hfr h (nw t h.2.2.1.1 (by omega))
  | succ f ih =>
    intro t o I1 hf hfr h
    obtain ⟨hX, hL, ht, hC, hw, hr, h10⟩ := id h
    show MRes T n I J code _ (if wdW T t [111, 114] then (match P (nx T n t) with | .inl p => .inl p | .inr (t', o') => lpU T n [111, 114] (3, 0, 0, 0) P f t' (o ++ (o' ++ [(3, 0, 0, 0)]))) else .inr (t, o))
    by_cases hh : wdW T t [111, 114]
    · rw [if_pos hh]
      have h185 := m185_2 (d := d + 1) (J := J) hT hX hL ht.1 (show ltr 111 by decide) (show ltr 114 by decide)
      rw [if_pos hh] at h185
      have e0 : am_X (am_cal (d + 4)) 192 2 [.ref 229] [] (mS I1 J) = _ := e_192_2
      obtain ⟨I2, a1, a2, a3⟩ := h.nx (d := d) (J := J) hT
      simp only [lc_229, hw, z_t, show d + 4 = d + 1 + 3 from rfl, h185, z_f, lc_229, lr_229_0, lc_230, ll_230, bq_s, mS_c, mS_l, mS_r, mS_i, mS_j, mS_pi, mS_pj, lt_st, bq_s, bV_s, bI_s, bJ_s, bA_s, nz_0, nc_0, nz_1, nc_1, nz_2, nc_2, nz_3, nc_3, nz_4, nc_4, nz_5, nc_5, nz_6, nc_6, nz_7, nc_7, nz_8, nc_8, nz_9, nc_9, nz_10, nc_10, nz_11, nc_11, nz_12, nc_12, if_true, if_false, eq_self, true_and, and_true, false_or, or_false, true_or, or_true, false_and, and_false, not_true, not_false_eq_true, ne_eq, ite_self, ite_not, ↓reduceIte] at e0
      rw [show d + 1 + 3 = d + 4 from rfl, a3, bV_s] at e0
      have hPt := hP I2 _ _ a2
      have hgr := hP2 (nx T n t) a2.2.2.1
      have q1 := nx_le (T := T) ht.1
      have q2 := wd_len ht.1 hh
      have q3 : ([111, 114] : List Nat).length = 2 := rfl
      cases hc : P (nx T n t) with
      | inl p =>
        rw [hc] at hPt
        obtain ⟨I3, c1, c2, c3, c4, c5⟩ := hPt
        rw [c5, bV_s, show d + 4 = d + 3 + 1 from rfl, m183w c4, bV_s] at e0
        have e1 : am_X (am_cal (d + 3 + 1)) 192 2 [.ref 229] [] (mS I3 J) = some (none, mS I3 J) := by
          rw [e_192_2]
          simp only [lc_229, c4, z_f, lc_229, lr_229_0, lc_230, ll_230, bq_s, mS_c, mS_l, mS_r, mS_i, mS_j, mS_pi, mS_pj, lt_st, bq_s, bV_s, bI_s, bJ_s, bA_s, nz_0, nc_0, nz_1, nc_1, nz_2, nc_2, nz_3, nc_3, nz_4, nc_4, nz_5, nc_5, nz_6, nc_6, nz_7, nc_7, nz_8, nc_8, nz_9, nc_9, nz_10, nc_10, nz_11, nc_11, nz_12, nc_12, if_true, if_false, eq_self, true_and, and_true, false_or, or_false, true_or, or_true, false_and, and_false, not_true, not_false_eq_true, ne_eq, ite_self, ite_not, ↓reduceIte]
        exact ⟨I3, c1.tr ((FrM.fn a1).tr hfr), c2, c3, c4, e0.trans e1⟩
      | inr r =>
        obtain ⟨t2, o2⟩ := r
        rw [hc] at hPt hgr
        obtain ⟨I3, c1, c2, c3, c4, c5⟩ := hPt
        obtain ⟨g1, g2, g3⟩ := hgr
        have g4 := g1.1.2.1
        have g5 := g1.1.1
        have c10 : I3 229 10 = nI dp := by rw [c1.2 10 (by decide) (by decide) (by decide) (by decide)]; exact a2.2.2.2.2.2.2
        have hl0 : (code ++ eMs o ++ eMs o2).length + 2 ≤ t2.1 := by rw [List.length_append]; omega
        have hMX3 : MX T n dp I3 (code ++ eMs o ++ eMs o2) t2 := ⟨a2.1.fm c1, c2, g1, c3, c4, by omega, c10⟩
        obtain ⟨I4, d1, d2, d3⟩ := hMX3.em (d := d + 3) (J := J) (x := nI 10012) (by omega)
        rw [c5, bV_s, show d + 4 = d + 3 + 1 from rfl, d3, bV_s] at e0
        have eq1 : (code ++ eMs o ++ eMs o2) ++ [nI 10012] = code ++ eMs (o ++ (o2 ++ [(3, 0, 0, 0)])) := by
          rw [eMs_app, eMs_app, show eMs [((3, 0, 0, 0) : PO)] = [nI 10012] from rfl]
          simp only [List.append_assoc]
        rw [eq1] at d2
        have hMX4 : MX T n dp I4 (code ++ eMs (o ++ (o2 ++ [(3, 0, 0, 0)]))) t2 := ⟨d2.1, d2.2.1, g1, d2.2.2.1, d2.2.2.2.1, by rw [← eq1, List.length_append]; show (code ++ eMs o ++ eMs o2).length + 1 + 1 ≤ t2.1; omega, d2.2.2.2.2⟩
        have := ih t2 _ I4 (by omega) (d1.tr (c1.tr ((FrM.fn a1).tr hfr))) hMX4
        rw [← e0] at this
        exact this
    · rw [if_neg hh]
      exact quit t o I1 hfr h hh
theorem m192 (hT : okT T n) {sub : Option (Tok → PR)} {b : Nat} (hP2 : okR2 T n b (allG T n sub)) (hP : ∀ (I : mI) (code : List Int32) (t : Tok), MX T n dp I code t → MRes T n I J code (am_cal (d + 4) 191 [.ref 229] (mS I J)) (allG T n sub t)) (h : MX T n dp I code t) : MRes T n I J code (am_cal (d + 5) 192 [.ref 229] (mS I J)) (anyG T n sub t) := by
  have hn := hT.1
  have e0 : am_cal (d + 5) 192 [.ref 229] (mS I J) = _ := c_192 lc_229
  have hPt := hP I code t h
  have hgr := hP2 t h.2.2.1
  unfold anyG
  cases hc : allG T n sub t with
  | inl p =>
    rw [hc] at hPt
    obtain ⟨I3, c1, c2, c3, c4, c5⟩ := hPt
    rw [c5, bV_s, e_192_2] at e0
    simp only [lc_229, c4, z_f, lc_229, lr_229_0, lc_230, ll_230, bq_s, mS_c, mS_l, mS_r, mS_i, mS_j, mS_pi, mS_pj, lt_st, bq_s, bV_s, bI_s, bJ_s, bA_s, nz_0, nc_0, nz_1, nc_1, nz_2, nc_2, nz_3, nc_3, nz_4, nc_4, nz_5, nc_5, nz_6, nc_6, nz_7, nc_7, nz_8, nc_8, nz_9, nc_9, nz_10, nc_10, nz_11, nc_11, nz_12, nc_12, if_true, if_false, eq_self, true_and, and_true, false_or, or_false, true_or, or_true, false_and, and_false, not_true, not_false_eq_true, ne_eq, ite_self, ite_not, ↓reduceIte] at e0
    exact ⟨I3, c1, c2, c3, c4, e0⟩
  | inr r =>
    obtain ⟨t2, o2⟩ := r
    rw [hc] at hPt hgr
    obtain ⟨I3, c1, c2, c3, c4, c5⟩ := hPt
    obtain ⟨g1, g2, g3⟩ := hgr
    have hr := h.2.2.2.2.2.1
    have c10 : I3 229 10 = nI dp := by rw [c1.2 10 (by decide) (by decide) (by decide) (by decide)]; exact h.2.2.2.2.2.2
    rw [c5, bV_s] at e0
    have hMX3 : MX T n dp I3 (code ++ eMs o2) t2 := ⟨h.1.fm c1, c2, g1, c3, c4, by rw [List.length_append]; omega, c10⟩
    have := e192l (cc := 0) hT hP2 hP n t2 o2 I3 (by omega) c1 hMX3
    rw [← e0] at this
    exact this

theorem m192k (hT : okT T n) : ∀ k, k ≤ 3 → ∀ (I : mI) (d : Nat) (code : List Int32) (t : Tok), MX T n (3 - k) I code t → MRes T n I J code (am_cal (d + (8 * (k + 1))) 192 [.ref 229] (mS I J)) (anyG T n (subK T n k) t) := by
  intro k
  induction k with
  | zero =>
    intro hk I d code t h
    obtain ⟨o1, o2, o3⟩ := sub_ok (T := T) (n := n) 0
    exact m192 (d := d + 3) (J := J) hT o2 (fun I code t h => m191 (d := d + 2) (J := J) hT o1 (fun I code t h => m190 (d := d) (cc := 0) (J := J) hT (by decide) (fun A hA => by cases hA) (fun A hA => by cases hA) h) h) h
  | succ k ih =>
    intro hk I d code t h
    obtain ⟨p1, p2, p3⟩ := sub_ok (T := T) (n := n) k
    obtain ⟨o1, o2, o3⟩ := sub_ok (T := T) (n := n) (k + 1)
    have h190 : ∀ (I : mI) (code : List Int32) (t : Tok), MX T n (3 - (k + 1)) I code t → MRes T n I J code (am_cal (d + 8 * (k + 1) + 6) 190 [.ref 229] (mS I J)) (oneG T n (subK T n (k + 1)) t) := fun I code t h => m190 (d := d) (cc := 8 * (k + 1)) (J := J) hT hk (fun A hA I d code t h => by
      cases hA
      rw [show 3 - (k + 1) + 1 = 3 - k by omega] at h
      exact ih (by omega) I d code t h) (fun A hA => by cases hA; exact ⟨_, p3⟩) h
    have := m192 (d := d + 8 * (k + 1) + 3) (J := J) hT o2 (fun I code t h => m191 (d := d + 8 * (k + 1) + 2) (J := J) hT o1 h190 h) h
    rw [show d + 8 * (k + 1 + 1) = d + 8 * (k + 1) + 3 + 5 by omega]
    exact this
end J9s
