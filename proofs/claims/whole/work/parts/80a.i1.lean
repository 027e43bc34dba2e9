/-! ===== judge ===== -/
def nxU (h : Nat → Nat) : Nat → Nat → Int32
  | 0, _ => Int32.ofInt (-9)
  | n + 1, p => if h p = 0 then nxU h n (p + 1) else nI p
abbrev rgR (h : Nat → Nat) (R : Nat → Nat → Int64) (i p : Nat) : Prop := R i 0 = lN p ∧ R i 1 = low (h p) (nI 0) ∧ R i 2 = low (h p) (nI 1)
def jdU (h : Nat → Nat) (R : Nat → Nat → Int64) (m : Nat) : Nat → Nat → Nat → Nat
  | 0, _, i => if i < m then i + 1 else 0
  | n + 1, p, i => if h p = 0 then jdU h R m n (p + 1) i else if i = m then 222 else if rgR h R i p then jdU h R m n (p + 1) (i + 1) else i + 1
noncomputable def v_judge (s : Rw) (m : Nat) (R : Nat → Nat → Int64) (x : Int32) : Int32 := if isCl s x then nI (jdU (shA s x.toNatClampNeg) R m (nP s) 0 0) else Int32.ofInt (-1)
section I1s
variable {I I' : mI} {J : mJ} {s s' t : Rw} {w p q e c d k n g a b l m : Nat} {x y z u v : Int32} {h : Nat → Nat} {R : Nat → Nat → Int64}
theorem n_m9 {p : Nat} (hp : p < 2 ^ 31) : (nI p = Int32.ofInt (-9)) = False := eq_false fun h => by
  have h1 : ¬ nI p < 0 := nI_pos hp
  rw [h] at h1
  exact h1 (by decide)
theorem e36 (hR : Rep I 1 s) (hW : WF s) (hh : HC J 191 h) (hb : ∀ p, p < 12 → h p < 2 ^ 45) : ∀ n p, p + n = nP s → am_X (am_cal d) 36 2 [.ref 190, .null, .int (nI p)] [] (mS I J) = some (some (.int (nxU h n p)), mS I J) := by
  have h12 := hW.nP.1
  have h9 : I 1 9 = nI (nP s) := hR.ppl.trans hW.nP.2
  intro n
  induction n with
  | zero =>
    intro p hk
    have hk' : p = nP s := by omega
    subst hk'
    rw [e_36_2]
    simp only [lc_190, lr_190_0, w_C W1, h9, n_lt (show nP s < 2 ^ 31 by omega) (show nP s < 2 ^ 31 by omega), Nat.lt_irrefl, nxU, bq_s, mS_c, mS_l, mS_r, mS_i, mS_j, mS_pi, mS_pj, lt_st, bq_s, bV_s, bI_s, bJ_s, bA_s, nz_0, nc_0, nz_1, nc_1, nz_2, nc_2, nz_3, nc_3, nz_4, nc_4, nz_5, nc_5, nz_6, nc_6, nz_7, nc_7, nz_8, nc_8, nz_9, nc_9, nz_10, nc_10, nz_11, nc_11, nz_12, nc_12, if_true, if_false, eq_self, true_and, and_true, false_or, or_false, true_or, or_true, false_and, and_false, not_true, not_false_eq_true, ne_eq, ite_self, ite_not, ↓reduceIte, n_101, n_107, n_11]
  | succ n ih =>
    intro p hk
    have hkn : p < nP s := by omega
    have hk12 : p < 12 := by omega
    have i0c : (nI (p)).toNatClampNeg = p := nI_clamp (by omega)
    have i0z : (nI (p) < 0) = False := n_ge0 (by omega)
    have i0l : (12 ≤ p) = False := n_lef (by omega)
    have hj : J 191 p = lN (h p) := hh p hk12
    have hb2 := hb p hk12
    rw [e_36_2]
    by_cases h0 : h p = 0
    · simp only [lc_190, lr_190_0, lr_190_1, lc_191, ll_191, w_C W1, h9, n_lt (show p < 2 ^ 31 by omega) (show nP s < 2 ^ 31 by omega), eq_true hkn, i0c, i0z, i0l, hj, lN_z (show h p < 2 ^ 60 by omega), eq_true h0, nI_add, bq_s, mS_c, mS_l, mS_r, mS_i, mS_j, mS_pi, mS_pj, lt_st, bq_s, bV_s, bI_s, bJ_s, bA_s, nz_0, nc_0, nz_1, nc_1, nz_2, nc_2, nz_3, nc_3, nz_4, nc_4, nz_5, nc_5, nz_6, nc_6, nz_7, nc_7, nz_8, nc_8, nz_9, nc_9, nz_10, nc_10, nz_11, nc_11, nz_12, nc_12, if_true, if_false, eq_self, true_and, and_true, false_or, or_false, true_or, or_true, false_and, and_false, not_true, not_false_eq_true, ne_eq, ite_self, ite_not, ↓reduceIte, n_101, n_107, n_11]
      rw [ih (p + 1) (by omega)]
      simp only [nxU, if_pos h0]
    · simp only [lc_190, lr_190_0, lr_190_1, lc_191, ll_191, w_C W1, h9, n_lt (show p < 2 ^ 31 by omega) (show nP s < 2 ^ 31 by omega), eq_true hkn, i0c, i0z, i0l, hj, lN_z (show h p < 2 ^ 60 by omega), eq_false h0, nI_add, bq_s, mS_c, mS_l, mS_r, mS_i, mS_j, mS_pi, mS_pj, lt_st, bq_s, bV_s, bI_s, bJ_s, bA_s, nz_0, nc_0, nz_1, nc_1, nz_2, nc_2, nz_3, nc_3, nz_4, nc_4, nz_5, nc_5, nz_6, nc_6, nz_7, nc_7, nz_8, nc_8, nz_9, nc_9, nz_10, nc_10, nz_11, nc_11, nz_12, nc_12, if_true, if_false, eq_self, true_and, and_true, false_or, or_false, true_or, or_true, false_and, and_false, not_true, not_false_eq_true, ne_eq, ite_self, ite_not, ↓reduceIte, n_101, n_107, n_11]
      simp only [nxU, if_neg h0]
theorem k36 (hR : Rep I 1 s) (hW : WF s) (hh : HC J 191 h) (hb : ∀ p, p < 12 → h p < 2 ^ 45) (hn : p + n = nP s) : am_cal (d + 1) 36 [.ref 190, .int (nI p)] (mS I J) = some (some (.int (nxU h n p)), mS I J) := by
  rw [c_36 lc_190]
  exact e36 hR hW hh hb n p hn
theorem k127n : am_cal (d + 2) 127 [.ref 0, .int x, .int (Int32.ofInt (-9))] (mS I J) = some (some (.int (nI 0)), mS I J) := by
  rw [c_127 lc_0, if_pos rfl]
theorem k127 (hh : HC J 191 h) (hb : ∀ p, p < 12 → h p < 2 ^ 45) (hJ : ∀ r, r < m → ∀ i, i < 3 → J (208 + r) i = R r i) (hm : m ≤ 12) (hk : k < m) (hp : p < 12) : am_cal (d + 2) 127 [.ref 0, .int (nI k), .int (nI p)] (mS I J) = some (some (.int (if rgR h R k p then nI 1 else nI 0)), mS I J) := by
  have hk12 : k < 12 := by omega
  have i0c : (nI (k)).toNatClampNeg = k := nI_clamp (by omega)
  have i0z : (nI (k) < 0) = False := n_ge0 (by omega)
  have i0l : (12 ≤ k) = False := n_lef (by omega)
  have i1c : (nI (p)).toNatClampNeg = p := nI_clamp (by omega)
  have i1z : (nI (p) < 0) = False := n_ge0 (by omega)
  have i1l : (12 ≤ p) = False := n_lef (by omega)
  obtain ⟨cr, lr⟩ := cl_208 hk12
  have hb2 := hb p hp
  have xk : Int32.toInt64 (nI p) = lN p := nI_l (by omega)
  rw [c_127 lc_0]
  simp only [n_m9 (show p < 2 ^ 31 by omega), lc_0, lr_0_3, lr_0_10, lc_207, ll_207, r_207 hk12, cr, lr, i0c, i0z, i0l, i1c, i1z, i1l, lc_190, lr_190_1, lc_191, ll_191, hh p hp, xk, k34 (show h p < 2 ^ 60 by omega), bJ_s, hJ k hk 0 (by decide), hJ k hk 1 (by decide), hJ k hk 2 (by decide), l_eq, show (103 ≤ 182 ∧ 182 < 200) = True from eq_true (by decide), n_lef (show 0 < 3 by decide), n_lef (show 1 < 3 by decide), n_lef (show 2 < 3 by decide), bq_s, mS_c, mS_l, mS_r, mS_i, mS_j, mS_pi, mS_pj, lt_st, bq_s, bV_s, bI_s, bJ_s, bA_s, nz_0, nc_0, nz_1, nc_1, nz_2, nc_2, nz_3, nc_3, nz_4, nc_4, nz_5, nc_5, nz_6, nc_6, nz_7, nc_7, nz_8, nc_8, nz_9, nc_9, nz_10, nc_10, nz_11, nc_11, nz_12, nc_12, if_true, if_false, eq_self, true_and, and_true, false_or, or_false, true_or, or_true, false_and, and_false, not_true, not_false_eq_true, ne_eq, ite_self, ite_not, ↓reduceIte, n_101, n_107, n_11]
  by_cases h0 : R k 0 = lN p
  · by_cases h1 : R k 1 = low (h p) (nI 0)
    · by_cases h2 : R k 2 = low (h p) (nI 1)
      · rw [if_pos h0, if_pos h1, if_pos h2, if_pos (show rgR h R k p from ⟨h0, h1, h2⟩)]
      · rw [if_pos h0, if_pos h1, if_neg h2, if_neg (fun h => h2 h.2.2)]
    · rw [if_pos h0, if_neg h1, if_neg (fun h => h1 h.2.1)]
  · rw [if_neg h0, if_neg (fun h => h0 h.1)]
theorem e125 (hR : Rep I 1 s) (hW : WF s) (hh : HC J 191 h) (hb : ∀ p, p < 12 → h p < 2 ^ 45) (hm : m ≤ 12) (h18 : I 0 18 = nI m) (hJ : ∀ r, r < m → ∀ i, i < 3 → J (208 + r) i = R r i) : ∀ n p i, p + n = nP s → i ≤ m → am_X (am_cal (d + 2)) 125 18 [.ref 0, .null, .int (nxU h n p), .int (nI i)] [] (mS I J) = some (some (.int (nI (jdU h R m n p i))), mS I J) := by
  have h12 := hW.nP.1
  intro n
  induction n with
  | zero =>
    intro p i hp hi
    rw [e_125_18]
    show (if lyC 0 = 11 then _ else _ : am_R) = _
    simp only [lc_0, h18, nxU, k127n, n_lt (show i < 2 ^ 31 by omega) (show m < 2 ^ 31 by omega), nI_add, jdU, z_t, bq_s, mS_c, mS_l, mS_r, mS_i, mS_j, mS_pi, mS_pj, lt_st, bq_s, bV_s, bI_s, bJ_s, bA_s, nz_0, nc_0, nz_1, nc_1, nz_2, nc_2, nz_3, nc_3, nz_4, nc_4, nz_5, nc_5, nz_6, nc_6, nz_7, nc_7, nz_8, nc_8, nz_9, nc_9, nz_10, nc_10, nz_11, nc_11, nz_12, nc_12, if_true, if_false, eq_self, true_and, and_true, false_or, or_false, true_or, or_true, false_and, and_false, not_true, not_false_eq_true, ne_eq, ite_self, ite_not, ↓reduceIte, n_101, n_107, n_11]
    by_cases h : i < m
    · rw [if_pos h, if_pos h]
    · rw [if_neg h, if_neg h]
  | succ n ih =>
    intro p i hp hi
    by_cases h0 : h p = 0
    · simp only [nxU, jdU, if_pos h0]
      exact ih (p + 1) i (by omega) hi
    · rw [e_125_18]
      simp only [nxU, jdU, if_neg h0]
      by_cases hi2 : i < m
      · simp only [lc_0, lr_0_3, h18, n_lt (show i < 2 ^ 31 by omega) (show m < 2 ^ 31 by omega), eq_true hi2, k127 hh hb hJ hm hi2 (show p < 12 by omega), nI_add, k36 hR hW hh hb (show p + 1 + n = nP s by omega), eq_false (show ¬ i = m by omega), bq_s, mS_c, mS_l, mS_r, mS_i, mS_j, mS_pi, mS_pj, lt_st, bq_s, bV_s, bI_s, bJ_s, bA_s, nz_0, nc_0, nz_1, nc_1, nz_2, nc_2, nz_3, nc_3, nz_4, nc_4, nz_5, nc_5, nz_6, nc_6, nz_7, nc_7, nz_8, nc_8, nz_9, nc_9, nz_10, nc_10, nz_11, nc_11, nz_12, nc_12, if_true, if_false, eq_self, true_and, and_true, false_or, or_false, true_or, or_true, false_and, and_false, not_true, not_false_eq_true, ne_eq, ite_self, ite_not, ↓reduceIte, n_101, n_107, n_11]
        by_cases hr : rgR h R i p
        · simp only [if_pos hr, nq_1, if_false]
          exact ih (p + 1) (i + 1) (by omega) (by omega)
        · simp only [if_neg hr, nq_0, if_true]
      · simp only [lc_0, h18, n_lt (show i < 2 ^ 31 by omega) (show m < 2 ^ 31 by omega), eq_false hi2, n_m9 (show p < 2 ^ 31 by omega), eq_true (show i = m by omega), bq_s, mS_c, mS_l, mS_r, mS_i, mS_j, mS_pi, mS_pj, lt_st, bq_s, bV_s, bI_s, bJ_s, bA_s, nz_0, nc_0, nz_1, nc_1, nz_2, nc_2, nz_3, nc_3, nz_4, nc_4, nz_5, nc_5, nz_6, nc_6, nz_7, nc_7, nz_8, nc_8, nz_9, nc_9, nz_10, nc_10, nz_11, nc_11, nz_12, nc_12, if_true, if_false, eq_self, true_and, and_true, false_or, or_false, true_or, or_true, false_and, and_false, not_true, not_false_eq_true, ne_eq, ite_self, ite_not, ↓reduceIte, n_101, n_107, n_11]
theorem k125 (hR : Rep I 1 s) (hW : WF s) (hm : m ≤ 12) (h18 : I 0 18 = nI m) (hJ : ∀ r, r < m → ∀ i, i < 3 → J (208 + r) i = R r i) : ∃ I' J', FC I' I ∧ GC J' J ∧ am_cal (d + 7) 125 [.ref 0, .int x] (mS I J) = some (some (.int (v_judge s m R x)), mS I' J') := by
  have h12 := hW.nP.1
  have ew : WH = 4194304 := rfl
  unfold v_judge
  by_cases hx : isCl s x
  · obtain ⟨c, hc, rfl⟩ := isCl_n hW hx
    have hc12 := hW.nC.1
    have cc : (nI c).toNatClampNeg = c := nI_clamp (by omega)
    obtain ⟨I1, J1, a1, a2, a3, a4⟩ := k37 (d := d) (J := J) (Or.inl ⟨rfl, rfl⟩) hR hW hc
    have hR1 : Rep I1 1 s := hR.fr hW fun a h1 h2 h3 => a1 a h3
    have hb : ∀ p, p < 12 → shA s c p < 2 ^ 45 := fun p hp => by have := shA_le hW hc p; omega
    refine ⟨I1, J1, fun a x _ _ => a1 a x, fun a h1 _ => a2 a h1, ?_⟩
    have h18' : I1 0 18 = nI m := by rw [a1 0 (by decide)]; exact h18
    have hJ' : ∀ r, r < m → ∀ i, i < 3 → J1 (208 + r) i = R r i := fun r hr i hi => by rw [a2 (208 + r) (by omega)]; exact hJ r hr i hi
    rw [c_125 lc_0]
    simp only [lc_0, lr_0_0, lr_0_3, k66 W1 hR, if_pos hx, z_t, z_f, a4, k36 (d := d + 5) hR1 hW a3 hb (show 0 + nP s = nP s by omega), cc, bq_s, mS_c, mS_l, mS_r, mS_i, mS_j, mS_pi, mS_pj, lt_st, bq_s, bV_s, bI_s, bJ_s, bA_s, nz_0, nc_0, nz_1, nc_1, nz_2, nc_2, nz_3, nc_3, nz_4, nc_4, nz_5, nc_5, nz_6, nc_6, nz_7, nc_7, nz_8, nc_8, nz_9, nc_9, nz_10, nc_10, nz_11, nc_11, nz_12, nc_12, if_true, if_false, eq_self, true_and, and_true, false_or, or_false, true_or, or_true, false_and, and_false, not_true, not_false_eq_true, ne_eq, ite_self, ite_not, ↓reduceIte, n_101, n_107, n_11]
    exact e125 (d := d + 4) hR1 hW a3 hb hm h18' hJ' (nP s) 0 0 (by omega) (by omega)
  · refine ⟨I, J, FC.rf, fun _ _ _ => rfl, ?_⟩
    rw [c_125 lc_0]
    simp only [lc_0, lr_0_0, k66 W1 hR, if_neg hx, z_t, z_f, bq_s, mS_c, mS_l, mS_r, mS_i, mS_j, mS_pi, mS_pj, lt_st, bq_s, bV_s, bI_s, bJ_s, bA_s, nz_0, nc_0, nz_1, nc_1, nz_2, nc_2, nz_3, nc_3, nz_4, nc_4, nz_5, nc_5, nz_6, nc_6, nz_7, nc_7, nz_8, nc_8, nz_9, nc_9, nz_10, nc_10, nz_11, nc_11, nz_12, nc_12, if_true, if_false, eq_self, true_and, and_true, false_or, or_false, true_or, or_true, false_and, and_false, not_true, not_false_eq_true, ne_eq, ite_self, ite_not, ↓reduceIte, n_101, n_107, n_11]
/-! the model -/
theorem e244 (hW : WF (I 230)) (hh : HM J h) (hb : ∀ p, p < 12 → h p < 2 ^ 45) (hm : m ≤ 12) (h24 : I 229 24 = nI m) (hJ : ∀ r, r < m → ∀ i, i < 3 → J 241 (3 * r + i) = R r i) : ∀ n p i, p + n = nP (I 230) → i ≤ m → am_X (am_cal (d + 2)) 244 13 [.ref 229, .null, .int (nI i), .int (nI p)] [] (mS I J) = some (some (.int (nI (jdU h R m n p i))), mS I J) := by
  have h12 := hW.nP.1
  have h9 : I 230 1 = nI (nP (I 230)) := hW.nP.2
  intro n
  induction n with
  | zero =>
    intro p i hp hi
    have hp' : p = nP (I 230) := by omega
    subst hp'
    rw [e_244_13]
    simp only [h9, h24, n_lt (show nP (I 230) < 2 ^ 31 by omega) (show nP (I 230) < 2 ^ 31 by omega), n_lt (show i < 2 ^ 31 by omega) (show m < 2 ^ 31 by omega), Nat.lt_irrefl, n_lef (show 1 < 546 by decide), lc_229, jdU, nI_add, lc_229, lr_229_0, lc_230, ll_230, bq_s, mS_c, mS_l, mS_r, mS_i, mS_j, mS_pi, mS_pj, lt_st, bq_s, bV_s, bI_s, bJ_s, bA_s, nz_0, nc_0, nz_1, nc_1, nz_2, nc_2, nz_3, nc_3, nz_4, nc_4, nz_5, nc_5, nz_6, nc_6, nz_7, nc_7, nz_8, nc_8, nz_9, nc_9, nz_10, nc_10, nz_11, nc_11, nz_12, nc_12, if_true, if_false, eq_self, true_and, and_true, false_or, or_false, true_or, or_true, false_and, and_false, not_true, not_false_eq_true, ne_eq, ite_self, ite_not, ↓reduceIte]
    by_cases h : i < m
    · rw [if_pos h, if_pos h]
    · rw [if_neg h, if_neg h]
  | succ n ih =>
    intro p i hp hi
    have hkn : p < nP (I 230) := by omega
    have hp12 : p < 12 := by omega
    have i0c : (nI (p)).toNatClampNeg = p := nI_clamp (by omega)
    have i0z : (nI (p) < 0) = False := n_ge0 (by omega)
    have i0l : (12 ≤ p) = False := n_lef (by omega)
    have hj : J 239 p = lN (h p * 16384) := hh p hp12
    have hb2 := hb p hp12
    rw [e_244_13]
    by_cases h0 : h p = 0
    · have hp0 : (0 < h p * 16384) = False := eq_false (by omega)
      simp only [jdU, if_pos h0]
      simp only [lr_229_17, lc_239, ll_239, h9, n_lt (show p < 2 ^ 31 by omega) (show nP (I 230) < 2 ^ 31 by omega), eq_true hkn, i0c, i0z, i0l, hj, lN_p (show h p * 16384 < 2 ^ 63 by omega), hp0, nI_add, n_lef (show 1 < 546 by decide), lc_229, lc_229, lr_229_0, lc_230, ll_230, bq_s, mS_c, mS_l, mS_r, mS_i, mS_j, mS_pi, mS_pj, lt_st, bq_s, bV_s, bI_s, bJ_s, bA_s, nz_0, nc_0, nz_1, nc_1, nz_2, nc_2, nz_3, nc_3, nz_4, nc_4, nz_5, nc_5, nz_6, nc_6, nz_7, nc_7, nz_8, nc_8, nz_9, nc_9, nz_10, nc_10, nz_11, nc_11, nz_12, nc_12, if_true, if_false, eq_self, true_and, and_true, false_or, or_false, true_or, or_true, false_and, and_false, not_true, not_false_eq_true, ne_eq, ite_self, ite_not, ↓reduceIte]
      exact ih (p + 1) i (by omega) hi
    · have hp0 : (0 < h p * 16384) = True := eq_true (by omega)
      simp only [jdU, if_neg h0]
      by_cases hi2 : i < m
      · have hi12 : i < 12 := by omega
        have j0c : (nI (3 * i)).toNatClampNeg = 3 * i := nI_clamp (by omega)
        have j0z : (nI (3 * i) < 0) = False := n_ge0 (by omega)
        have j0l : (36 ≤ 3 * i) = False := n_lef (by omega)
        have j1c : (nI (3 * i + 1)).toNatClampNeg = 3 * i + 1 := nI_clamp (by omega)
        have j1z : (nI (3 * i + 1) < 0) = False := n_ge0 (by omega)
        have j1l : (36 ≤ 3 * i + 1) = False := n_lef (by omega)
        have j2c : (nI (3 * i + 2)).toNatClampNeg = 3 * i + 2 := nI_clamp (by omega)
        have j2z : (nI (3 * i + 2) < 0) = False := n_ge0 (by omega)
        have j2l : (36 ≤ 3 * i + 2) = False := n_lef (by omega)
        have p0 : nI 3 * nI i = nI (3 * i) := pk_mul _ _
        have xk : Int32.toInt64 (nI p) = lN p := nI_l (by omega)
        have r0 : J 241 (3 * i) = R i 0 := hJ i hi2 0 (by decide)
        simp only [lr_229_17, lr_229_23, lc_241, ll_241, lc_239, ll_239, h9, h24, n_lt (show p < 2 ^ 31 by omega) (show nP (I 230) < 2 ^ 31 by omega), n_eq (show i < 2 ^ 31 by omega) (show m < 2 ^ 31 by omega), eq_false (show ¬ i = m by omega), eq_true hkn, i0c, i0z, i0l, j0c, j0z, j0l, j1c, j1z, j1l, j2c, j2z, j2l, hj, lN_p (show h p * 16384 < 2 ^ 63 by omega), hp0, p0, xk, m158 hb2, bJ_s, r0, hJ i hi2 1 (by decide), hJ i hi2 2 (by decide), l_eq, nI_add, n_lef (show 1 < 546 by decide), lc_229, lc_229, lr_229_0, lc_230, ll_230, bq_s, mS_c, mS_l, mS_r, mS_i, mS_j, mS_pi, mS_pj, lt_st, bq_s, bV_s, bI_s, bJ_s, bA_s, nz_0, nc_0, nz_1, nc_1, nz_2, nc_2, nz_3, nc_3, nz_4, nc_4, nz_5, nc_5, nz_6, nc_6, nz_7, nc_7, nz_8, nc_8, nz_9, nc_9, nz_10, nc_10, nz_11, nc_11, nz_12, nc_12, if_true, if_false, eq_self, true_and, and_true, false_or, or_false, true_or, or_true, false_and, and_false, not_true, not_false_eq_true, ne_eq, ite_self, ite_not, ↓reduceIte]
        by_cases g0 : R i 0 = lN p
        · by_cases g1 : R i 1 = low (h p) (nI 0)
          · by_cases g2 : R i 2 = low (h p) (nI 1)
            · rw [if_pos g0, if_pos g1, if_pos g2, if_pos (show rgR h R i p from ⟨g0, g1, g2⟩)]
              exact ih (p + 1) (i + 1) (by omega) (by omega)
            · rw [if_pos g0, if_pos g1, if_neg g2, if_neg (fun h => g2 h.2.2)]
          · rw [if_pos g0, if_neg g1, if_neg (fun h => g1 h.2.1)]
        · rw [if_neg g0, if_neg (fun h => g0 h.1)]
      · simp only [lr_229_17, lc_239, ll_239, h9, h24, n_lt (show p < 2 ^ 31 by omega) (show nP (I 230) < 2 ^ 31 by omega), n_eq (show i < 2 ^ 31 by omega) (show m < 2 ^ 31 by omega), eq_true (show i = m by omega), eq_true hkn, i0c, i0z, i0l, hj, lN_p (show h p * 16384 < 2 ^ 63 by omega), hp0, n_lef (show 1 < 546 by decide), lc_229, lc_229, lr_229_0, lc_230, ll_230, bq_s, mS_c, mS_l, mS_r, mS_i, mS_j, mS_pi, mS_pj, lt_st, bq_s, bV_s, bI_s, bJ_s, bA_s, nz_0, nc_0, nz_1, nc_1, nz_2, nc_2, nz_3, nc_3, nz_4, nc_4, nz_5, nc_5, nz_6, nc_6, nz_7, nc_7, nz_8, nc_8, nz_9, nc_9, nz_10, nc_10, nz_11, nc_11, nz_12, nc_12, if_true, if_false, eq_self, true_and, and_true, false_or, or_false, true_or, or_true, false_and, and_false, not_true, not_false_eq_true, ne_eq, ite_self, ite_not, ↓reduceIte]
theorem m244 (hW : WF (I 230)) (hm : m ≤ 12) (h24 : I 229 24 = nI m) (hJ : ∀ r, r < m → ∀ i, i < 3 → J 241 (3 * r + i) = R r i) : ∃ I' J', FM I' I ∧ GM J' J ∧ am_cal (d + 9) 244 [.ref 229, .int x] (mS I J) = some (some (.int (v_judge (I 230) m R x)), mS I' J') := by
  have h12 := hW.nP.1
  have ew : WH = 4194304 := rfl
  unfold v_judge
  by_cases hx : isCl (I 230) x
  · obtain ⟨c, hc, rfl⟩ := isCl_n hW hx
    have hc12 := hW.nC.1
    have cc : (nI c).toNatClampNeg = c := nI_clamp (by omega)
    obtain ⟨I1, J1, a1, a2, a3, a4⟩ := m210 (d := d) (J := J) hW hc
    have f0 : I1 230 = I 230 := a1 230 (by decide) (by decide) (by decide)
    have hb : ∀ p, p < 12 → shA (I 230) c p < 2 ^ 45 := fun p hp => by have := shA_le hW hc p; omega
    refine ⟨I1, J1, FM.f3 a1, fun a h1 => a2 a h1, ?_⟩
    have h24' : I1 229 24 = nI m := by rw [a1 229 (by decide) (by decide) (by decide)]; exact h24
    have hJ' : ∀ r, r < m → ∀ i, i < 3 → J1 241 (3 * r + i) = R r i := fun r hr i hi => by rw [a2 241 (by decide)]; exact hJ r hr i hi
    rw [c_244 lc_229, m203 hW, bI_s, if_pos hx, if_neg (by decide), a4]
    simp only [cc, if_pos hx, lc_229, lr_229_0, lc_230, ll_230, bq_s, mS_c, mS_l, mS_r, mS_i, mS_j, mS_pi, mS_pj, lt_st, bq_s, bV_s, bI_s, bJ_s, bA_s, nz_0, nc_0, nz_1, nc_1, nz_2, nc_2, nz_3, nc_3, nz_4, nc_4, nz_5, nc_5, nz_6, nc_6, nz_7, nc_7, nz_8, nc_8, nz_9, nc_9, nz_10, nc_10, nz_11, nc_11, nz_12, nc_12, if_true, if_false, eq_self, true_and, and_true, false_or, or_false, true_or, or_true, false_and, and_false, not_true, not_false_eq_true, ne_eq, ite_self, ite_not, ↓reduceIte]
    have he := e244 (d := d + 6) (I := I1) (by rw [f0]; exact hW) a3 hb hm h24' hJ' (nP (I 230)) 0 0 (by rw [f0]; omega) (by omega)
    exact he
  · refine ⟨I, J, FM.rf, fun _ _ => rfl, ?_⟩
    rw [c_244 lc_229, m203 hW, bI_s, if_neg hx, if_pos nI_0, if_neg hx]
end I1s
