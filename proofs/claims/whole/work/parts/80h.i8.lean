/-! ===== what a shelf holds; taken: the model ===== -/
def ab (s : Rw) (W : Nat → Nat) (H : Nat → Int32) (q : Nat) : Int32 := if W q = 0 then pF s (H q).toNatClampNeg 4 else cF s (H q).toNatClampNeg 2
abbrev FT (I' I : mI) : Prop := (∀ a, a ≠ 229 → I' a = I a) ∧ ∀ k, (k < 31 ∨ 33 < k) → I' 229 k = I 229 k
section I8s
variable {I I' : mI} {J : mJ} {s : Rw} {d k n q p i c m : Nat} {x y z u v w : Int32} {S : Nat → Int32} {Z : Nat → Nat} {T : Nat → Nat → Int32} {W : Nat → Nat} {H Y : Nat → Int32}
theorem nI_ne {a b : Nat} (ha : a < 2 ^ 31) (hb : b < 2 ^ 31) (h : a ≠ b) : ¬ nI a = nI b := by rw [n_eq ha hb]; exact h
theorem m253 (hL : SlM I W H Y) (hW : WF (I 230)) (hq : q < 4) : ∃ I', FT I' I ∧ I' 229 32 = I 246 q ∧ (hd (I 230) W H q < 2 → I' 229 31 = kd (I 230) W H q ∧ I' 229 33 = ab (I 230) W H q) ∧ (¬ hd (I 230) W H q < 2 → I' 229 31 = Int32.ofInt (-1)) ∧ am_cal (d + 3) 253 [.ref 229, .int (nI q)] (mS I J) = some (none, mS I' J) := by
  have i0c : (nI (q)).toNatClampNeg = q := nI_clamp (by omega)
  have i0z : (nI (q) < 0) = False := n_ge0 (by omega)
  have i0l : (4 ≤ q) = False := n_lef (by omega)
  obtain ⟨l3, l1, l2, l4⟩ := hL q hq
  have e0 : am_cal (d + 3) 253 [.ref 229, .int (nI q)] (mS I J) = _ := c_253 lc_229
  have g1 : ∀ (I1 : mI) (k : Nat) (v : Int32) (a : Nat), a ≠ 229 → wI I1 229 k v a = I1 a := fun I1 k v a h => wI_F1 a h
  have g245 : ∀ (I1 : mI) (k : Nat) (v : Int32), wI I1 229 k v 245 = I1 245 := fun I1 k v => wI_F1 245 (by decide)
  have g230 : ∀ (I1 : mI) (k : Nat) (v : Int32), wI I1 229 k v 230 = I1 230 := fun I1 k v => wI_F1 230 (by decide)
  have n00 : (nI 0 = (0 : Int32)) = True := z_t
  generalize hI1 : wI (wI I 229 31 (Int32.ofInt (-1))) 229 32 (I 246 q) = I1 at *
  have f0 : I1 230 = I 230 := by rw [← hI1, g230, g230]
  have f5 : I1 245 q = nI (W q) := by rw [← hI1, g245, g245]; exact l1
  have f31 : I1 229 31 = Int32.ofInt (-1) := by rw [← hI1, wI_nk (by decide), wI_eq]
  have f32 : I1 229 32 = I 246 q := by rw [← hI1, wI_eq]
  have fT : FT I1 I := by
    rw [← hI1]
    exact ⟨fun a h => by rw [g1 _ _ _ a h, g1 _ _ _ a h], fun k hk => by rw [wI_nk (by omega), wI_nk (by omega)]⟩
  have fT2 : ∀ (a b : Int32), FT (wI (wI I1 229 31 a) 229 33 b) I := fun a b => ⟨fun c h => by rw [g1 _ _ _ c h, g1 _ _ _ c h, fT.1 c h], fun k hk => by rw [wI_nk (by omega), wI_nk (by omega), fT.2 k hk]⟩
  have v153 : ∀ (d : Nat) (x : Int32), am_cal (d + 2) 153 [.ref 229, .int x] (mS I1 J) = some (some (.int (if isP (I 230) x then nI 1 else nI 0)), mS I1 J) := fun d x => by rw [m153 (by rw [f0]; exact hW), f0]
  have v203 : ∀ (d : Nat) (x : Int32), am_cal (d + 2) 203 [.ref 229, .int x] (mS I1 J) = some (some (.int (if isCl (I 230) x then nI 1 else nI 0)), mS I1 J) := fun d x => by rw [m203 (by rw [f0]; exact hW), f0]
  have h12 := hW.nP.1
  have hc12 := hW.nC.1
  simp only [lc_229, lr_229_28, lr_229_29, lc_245, ll_245, lc_246, ll_246, i0c, i0z, i0l, hI1, f5, lc_229, lr_229_0, lc_230, ll_230, bq_s, mS_c, mS_l, mS_r, mS_i, mS_j, mS_pi, mS_pj, lt_st, bq_s, bV_s, bI_s, bJ_s, bA_s, nz_0, nc_0, nz_1, nc_1, nz_2, nc_2, nz_3, nc_3, nz_4, nc_4, nz_5, nc_5, nz_6, nc_6, nz_7, nc_7, nz_8, nc_8, nz_9, nc_9, nz_10, nc_10, nz_11, nc_11, nz_12, nc_12, if_true, if_false, eq_self, true_and, and_true, false_or, or_false, true_or, or_true, false_and, and_false, not_true, not_false_eq_true, ne_eq, ite_self, ite_not, ↓reduceIte] at e0
  unfold hd kd ab
  by_cases w0 : W q = 0
  · have l2' := l2 (by omega)
    simp only [w0, z_t, v153, nn_0_1, nq_0, lc_229, lr_229_0, lc_230, ll_230, bq_s, mS_c, mS_l, mS_r, mS_i, mS_j, mS_pi, mS_pj, lt_st, bq_s, bV_s, bI_s, bJ_s, bA_s, nz_0, nc_0, nz_1, nc_1, nz_2, nc_2, nz_3, nc_3, nz_4, nc_4, nz_5, nc_5, nz_6, nc_6, nz_7, nc_7, nz_8, nc_8, nz_9, nc_9, nz_10, nc_10, nz_11, nc_11, nz_12, nc_12, if_true, if_false, eq_self, true_and, and_true, false_or, or_false, true_or, or_true, false_and, and_false, not_true, not_false_eq_true, ne_eq, ite_self, ite_not, ↓reduceIte] at e0
    rw [l2'] at e0
    rw [if_pos w0, if_pos w0, if_pos w0]
    by_cases hp : isP (I 230) (H q)
    · obtain ⟨p, hp', e⟩ := isP_n hW hp
      rw [e] at e0 hp
      rw [e, if_pos hp, nI_clamp (show p < 2 ^ 31 by omega)]
      have u0 : ∀ (I2 : mI) (d f : Nat), I2 230 = I 230 → f < 10 → am_cal (d + 1) 152 [.ref 229, .int (nI p), .int (nI f)] (mS I2 J) = some (some (.int (pF (I 230) p f)), mS I2 J) := fun I2 d f h1 hf => by rw [m152 (by omega) hf, h1]
      have hx0 : ¬ ((if isP (I 230) (nI p) then nI 1 else nI 0) = 0) := by rw [if_pos hp]; decide
      rw [if_neg hx0] at e0
      have n0' : (nI 0 : Int32) = nI 0 := rfl
      simp only [u0 I1 (d + 1) 0 f0 (by decide), u0 (wI I1 229 31 (pF (I 230) p 0)) (d + 1) 4 (by rw [g230]; exact f0) (by decide), lc_229, lr_229_0, lc_230, ll_230, bq_s, mS_c, mS_l, mS_r, mS_i, mS_j, mS_pi, mS_pj, lt_st, bq_s, bV_s, bI_s, bJ_s, bA_s, nz_0, nc_0, nz_1, nc_1, nz_2, nc_2, nz_3, nc_3, nz_4, nc_4, nz_5, nc_5, nz_6, nc_6, nz_7, nc_7, nz_8, nc_8, nz_9, nc_9, nz_10, nc_10, nz_11, nc_11, nz_12, nc_12, if_true, if_false, eq_self, true_and, and_true, false_or, or_false, true_or, or_true, false_and, and_false, not_true, not_false_eq_true, ne_eq, ite_self, ite_not, ↓reduceIte] at e0
      refine ⟨_, fT2 _ _, ?_, fun _ => ⟨?_, ?_⟩, fun h => absurd (show 0 < 2 by decide) h, e0⟩
      · rw [wI_nk (by decide), wI_nk (by decide), f32]
      · rw [wI_nk (by decide), wI_eq]
      · rw [wI_eq]
    · have hx0 : ((if isP (I 230) (H q) then nI 1 else nI 0) = 0) := by rw [if_neg hp]; exact nI_0
      rw [if_pos hx0] at e0
      simp only [lr_229_28, lc_245, ll_245, i0c, i0z, i0l, f5, w0, nn_0_1, lc_229, lr_229_0, lc_230, ll_230, bq_s, mS_c, mS_l, mS_r, mS_i, mS_j, mS_pi, mS_pj, lt_st, bq_s, bV_s, bI_s, bJ_s, bA_s, nz_0, nc_0, nz_1, nc_1, nz_2, nc_2, nz_3, nc_3, nz_4, nc_4, nz_5, nc_5, nz_6, nc_6, nz_7, nc_7, nz_8, nc_8, nz_9, nc_9, nz_10, nc_10, nz_11, nc_11, nz_12, nc_12, if_true, if_false, eq_self, true_and, and_true, false_or, or_false, true_or, or_true, false_and, and_false, not_true, not_false_eq_true, ne_eq, ite_self, ite_not, ↓reduceIte] at e0
      rw [if_neg hp]
      exact ⟨I1, fT, f32, fun h => absurd h (by decide), fun _ => f31, e0⟩
  · have n0 : (nI (W q) = 0) = False := eq_false (by rw [n_i0]; exact nI_ne (by omega) (by decide) w0)
    rw [if_neg w0, if_neg w0, if_neg w0]
    simp only [n0, lc_229, lr_229_0, lc_230, ll_230, bq_s, mS_c, mS_l, mS_r, mS_i, mS_j, mS_pi, mS_pj, lt_st, bq_s, bV_s, bI_s, bJ_s, bA_s, nz_0, nc_0, nz_1, nc_1, nz_2, nc_2, nz_3, nc_3, nz_4, nc_4, nz_5, nc_5, nz_6, nc_6, nz_7, nc_7, nz_8, nc_8, nz_9, nc_9, nz_10, nc_10, nz_11, nc_11, nz_12, nc_12, if_true, if_false, eq_self, true_and, and_true, false_or, or_false, true_or, or_true, false_and, and_false, not_true, not_false_eq_true, ne_eq, ite_self, ite_not, ↓reduceIte] at e0
    by_cases w1 : W q = 1
    · have l2' := l2 (by omega)
      simp only [w1, v203, lc_229, lr_229_0, lc_230, ll_230, bq_s, mS_c, mS_l, mS_r, mS_i, mS_j, mS_pi, mS_pj, lt_st, bq_s, bV_s, bI_s, bJ_s, bA_s, nz_0, nc_0, nz_1, nc_1, nz_2, nc_2, nz_3, nc_3, nz_4, nc_4, nz_5, nc_5, nz_6, nc_6, nz_7, nc_7, nz_8, nc_8, nz_9, nc_9, nz_10, nc_10, nz_11, nc_11, nz_12, nc_12, if_true, if_false, eq_self, true_and, and_true, false_or, or_false, true_or, or_true, false_and, and_false, not_true, not_false_eq_true, ne_eq, ite_self, ite_not, ↓reduceIte] at e0
      rw [l2'] at e0
      rw [if_pos w1]
      by_cases hp : isCl (I 230) (H q)
      · obtain ⟨c, hc, e⟩ := isCl_n hW hp
        rw [e] at e0 hp
        rw [e, if_pos hp, nI_clamp (show c < 2 ^ 31 by omega)]
        have i1c : (nI (184 + 5 * c + 2)).toNatClampNeg = 184 + 5 * c + 2 := nI_clamp (by omega)
        have i1z : (nI (184 + 5 * c + 2) < 0) = False := n_ge0 (by omega)
        have i1l : (546 ≤ 184 + 5 * c + 2) = False := n_lef (by omega)
        have p0 : nI 5 * nI c = nI (5 * c) := pk_mul _ _
        have hx0 : ¬ ((if isCl (I 230) (nI c) then nI 1 else nI 0) = 0) := by rw [if_pos hp]; decide
        rw [if_neg hx0] at e0
        have gg : wI I1 229 31 (nI 7) 230 (184 + 5 * c + 2) = cF (I 230) c 2 := by rw [g230, f0]; rfl
        simp only [p0, nI_add, i1c, i1z, i1l, gg, lc_229, lr_229_0, lc_230, ll_230, bq_s, mS_c, mS_l, mS_r, mS_i, mS_j, mS_pi, mS_pj, lt_st, bq_s, bV_s, bI_s, bJ_s, bA_s, nz_0, nc_0, nz_1, nc_1, nz_2, nc_2, nz_3, nc_3, nz_4, nc_4, nz_5, nc_5, nz_6, nc_6, nz_7, nc_7, nz_8, nc_8, nz_9, nc_9, nz_10, nc_10, nz_11, nc_11, nz_12, nc_12, if_true, if_false, eq_self, true_and, and_true, false_or, or_false, true_or, or_true, false_and, and_false, not_true, not_false_eq_true, ne_eq, ite_self, ite_not, ↓reduceIte] at e0
        refine ⟨_, fT2 _ _, ?_, fun _ => ⟨?_, ?_⟩, fun h => absurd (show 1 < 2 by decide) h, e0⟩
        · rw [wI_nk (by decide), wI_nk (by decide), f32]
        · rw [wI_nk (by decide), wI_eq]
        · rw [wI_eq]
      · have hx0 : ((if isCl (I 230) (H q) then nI 1 else nI 0) = 0) := by rw [if_neg hp]; exact nI_0
        rw [if_pos hx0] at e0
        rw [if_neg hp]
        exact ⟨I1, fT, f32, fun h => absurd h (by decide), fun _ => f31, e0⟩
    · have n1 : (nI (W q) = nI 1) = False := eq_false (nI_ne (by omega) (by decide) w1)
      rw [if_neg w1]
      simp only [n1, lc_229, lr_229_0, lc_230, ll_230, bq_s, mS_c, mS_l, mS_r, mS_i, mS_j, mS_pi, mS_pj, lt_st, bq_s, bV_s, bI_s, bJ_s, bA_s, nz_0, nc_0, nz_1, nc_1, nz_2, nc_2, nz_3, nc_3, nz_4, nc_4, nz_5, nc_5, nz_6, nc_6, nz_7, nc_7, nz_8, nc_8, nz_9, nc_9, nz_10, nc_10, nz_11, nc_11, nz_12, nc_12, if_true, if_false, eq_self, true_and, and_true, false_or, or_false, true_or, or_true, false_and, and_false, not_true, not_false_eq_true, ne_eq, ite_self, ite_not, ↓reduceIte] at e0
      exact ⟨I1, fT, f32, fun h => by omega, fun _ => f31, e0⟩
theorem okTk_iff {y : Int32} : (¬ y < 0 ∧ ¬ nI 7 < y) ∨ (¬ y < nI 10 ∧ ¬ nI 14 < y) ↔ ¬ y < 0 ∧ ¬ (nI 7 < y ∧ y < nI 10) ∧ ¬ nI 14 < y := by
  constructor
  · rintro (⟨a, b⟩ | ⟨a, b⟩)
    · refine ⟨a, fun h => b h.1, fun h => b ?_⟩
      exact Int32.lt_trans (by decide) h
    · refine ⟨fun h => a (Int32.lt_trans h (by decide)), fun h => a h.2, b⟩
  · rintro ⟨a, b, c⟩
    by_cases h : nI 7 < y
    · exact Or.inr ⟨fun hh => b ⟨h, hh⟩, c⟩
    · exact Or.inl ⟨a, h⟩
theorem m255 (hL : SlM I W H Y) (hW : WF (I 230)) : ∃ I', FT I' I ∧ am_cal (d + 4) 255 [.ref 229, .int x, .int y] (mS I J) = some (some (.int (v_taken (I 230) W H Y x y)), mS I' J) := by
  have e0 : am_cal (d + 4) 255 [.ref 229, .int x, .int y] (mS I J) = _ := c_255 lc_229
  rw [m245, bI_s] at e0
  unfold v_taken
  by_cases hx : isSh x
  · rw [if_pos hx, if_neg (by decide), m151 (by decide) (by decide), bI_s] at e0
    by_cases hok : okTk x y
    · rw [if_pos hok]
      obtain ⟨q, hq, rfl⟩ := isSh_n hx
      have i0c : (nI (q)).toNatClampNeg = q := nI_clamp (by omega)
      have i0z : (nI (q) < 0) = False := n_ge0 (by omega)
      have i0l : (4 ≤ q) = False := n_lef (by omega)
      obtain ⟨I1, a1, a2, a3, a4, a5⟩ := m253 (d := d) (J := J) hL hW hq
      obtain ⟨l3, l1, l2, l4⟩ := hL q hq
      refine ⟨I1, a1, ?_⟩
      have g5 : I1 245 q = nI (W q) := by rw [a1.1 245 (by decide)]; exact l1
      have g6 : I1 246 q = I 246 q := by rw [a1.1 246 (by decide)]
      have g7 : I1 247 q = I 247 q := by rw [a1.1 247 (by decide)]
      have e1 : am_cal (d + 4) 255 [.ref 229, .int (nI q), .int y] (mS I J) = (if nI (W q) = nI 2 then am_X (am_cal (d + 3)) 255 29 [.ref 229, .int (nI q), .int y, .null] [.int (nI 1)] (mS I1 J) else am_X (am_cal (d + 3)) 255 29 [.ref 229, .int (nI q), .int y, .null] [.int (nI 0)] (mS I1 J)) := by
        rw [e0]
        by_cases h7 : ¬ y < nI 0 ∧ ¬ nI 7 < y
        · rw [if_pos h7, if_neg (by decide), a5]
          simp only [lc_229, lr_229_28, lc_245, ll_245, i0c, i0z, i0l, g5, lc_229, lr_229_0, lc_230, ll_230, bq_s, mS_c, mS_l, mS_r, mS_i, mS_j, mS_pi, mS_pj, lt_st, bq_s, bV_s, bI_s, bJ_s, bA_s, nz_0, nc_0, nz_1, nc_1, nz_2, nc_2, nz_3, nc_3, nz_4, nc_4, nz_5, nc_5, nz_6, nc_6, nz_7, nc_7, nz_8, nc_8, nz_9, nc_9, nz_10, nc_10, nz_11, nc_11, nz_12, nc_12, if_true, if_false, eq_self, true_and, and_true, false_or, or_false, true_or, or_true, false_and, and_false, not_true, not_false_eq_true, ne_eq, ite_self, ite_not, ↓reduceIte]
        · have h10 : ¬ y < nI 10 ∧ ¬ nI 14 < y := by
            rcases okTk_iff.mpr hok.2 with h | h
            · exact absurd (by rw [← n_i0]; exact h) h7
            · exact h
          rw [if_neg h7, if_pos nI_0, m151 (by decide) (by decide), bI_s, if_pos h10, if_neg (by decide), a5]
          simp only [lc_229, lr_229_28, lc_245, ll_245, i0c, i0z, i0l, g5, lc_229, lr_229_0, lc_230, ll_230, bq_s, mS_c, mS_l, mS_r, mS_i, mS_j, mS_pi, mS_pj, lt_st, bq_s, bV_s, bI_s, bJ_s, bA_s, nz_0, nc_0, nz_1, nc_1, nz_2, nc_2, nz_3, nc_3, nz_4, nc_4, nz_5, nc_5, nz_6, nc_6, nz_7, nc_7, nz_8, nc_8, nz_9, nc_9, nz_10, nc_10, nz_11, nc_11, nz_12, nc_12, if_true, if_false, eq_self, true_and, and_true, false_or, or_false, true_or, or_true, false_and, and_false, not_true, not_false_eq_true, ne_eq, ite_self, ite_not, ↓reduceIte]
      rw [e1, i0c]
      have h2w : hd (I 230) W H q = 2 ↔ W q = 2 := by
        unfold hd
        by_cases w0 : W q = 0
        · rw [if_pos w0, w0]; split <;> omega
        · rw [if_neg w0]
          by_cases w1 : W q = 1
          · rw [if_pos w1, w1]; split <;> omega
          · rw [if_neg w1]
      have h3 : hd (I 230) W H q ≤ 3 := by
        unfold hd
        split
        · split <;> omega
        · split
          · split <;> omega
          · exact l3
      have nm : (Int32.ofInt (-1) < 0) = True := eq_true (by decide)
      unfold tkV
      by_cases w2 : W q = 2
      · have h2 := h2w.mpr w2
        obtain ⟨c1, t, ht, c2⟩ := l4 w2
        rw [if_pos (by rw [w2]), if_neg (by omega), if_pos h2, e_255_29, if_neg (by decide), e_255_37]
        have c3 : I 246 q = nI t := (l2 (by omega)).trans c2
        by_cases hy : y < nI 10
        · have ne : ¬ y = nI 10 + H q := fun h => by
            rw [c2, nI_add] at h; rw [h, n_lt (by omega) (by decide)] at hy; omega
          rw [if_pos hy, if_neg (by decide), if_neg ne]
        · have y0 := hok.2.1
          obtain ⟨j, hj, rfl⟩ := nI_of y0
          rw [n_lt hj (by decide)] at hy
          have hs : nI j - nI 10 = nI (j - 10) := n_sub (by omega)
          have hcc : (nI t = nI (j - 10)) = (nI j = nI 10 + H q) := by
            rw [c2, nI_add, n_eq (by omega) (by omega), n_eq hj (by omega)]
            exact propext ⟨fun h => by omega, fun h => by omega⟩
          rw [if_neg (by rw [n_lt hj (by decide)]; exact hy), if_neg (by decide)]
          simp only [lc_229, lr_229_29, lc_246, ll_246, lr_229_30, lc_247, ll_247, i0c, i0z, i0l, g6, g7, c3, c1, hs, hcc, lc_229, lr_229_0, lc_230, ll_230, bq_s, mS_c, mS_l, mS_r, mS_i, mS_j, mS_pi, mS_pj, lt_st, bq_s, bV_s, bI_s, bJ_s, bA_s, nz_0, nc_0, nz_1, nc_1, nz_2, nc_2, nz_3, nc_3, nz_4, nc_4, nz_5, nc_5, nz_6, nc_6, nz_7, nc_7, nz_8, nc_8, nz_9, nc_9, nz_10, nc_10, nz_11, nc_11, nz_12, nc_12, if_true, if_false, eq_self, true_and, and_true, false_or, or_false, true_or, or_true, false_and, and_false, not_true, not_false_eq_true, ne_eq, ite_self, ite_not, ↓reduceIte]
          by_cases hh : nI j = nI 10 + H q
          · rw [if_pos hh, if_pos hh]
          · rw [if_neg hh, if_neg hh]
      · have h2 : ¬ hd (I 230) W H q = 2 := fun h => w2 (h2w.mp h)
        rw [if_neg (nI_ne (by omega) (by decide) w2), e_255_29, if_pos nI_0, if_pos lc_229]
        by_cases h3' : hd (I 230) W H q = 3
        · rw [if_pos h3', a4 (by omega), if_pos (by decide)]
        · have hlt : hd (I 230) W H q < 2 := by omega
          obtain ⟨b1, b2⟩ := a3 hlt
          obtain ⟨j, j1, j7, ej⟩ := kd_rng hW hlt
          have wne : ¬ W q = 3 := fun hw => by
            unfold hd at hlt
            rw [if_neg (by omega), if_neg (by omega)] at hlt; omega
          rw [if_neg h3', if_neg h2, b1, if_neg (by rw [ej]; exact nI_pos (by omega)), e_255_37]
          by_cases hy : y < nI 10
          · rw [if_pos hy, if_pos nI_0, if_pos lc_229, b1, m254 ⟨j, j1, j7, ej⟩, bI_s]
            by_cases hu : und (kd (I 230) W H q) y
            · rw [if_pos hu, if_neg (by decide), if_pos (show y < nI 10 ∧ und (kd (I 230) W H q) y from ⟨hy, hu⟩)]
              simp only [lc_229, a2, l2 wne, lc_229, lr_229_0, lc_230, ll_230, bq_s, mS_c, mS_l, mS_r, mS_i, mS_j, mS_pi, mS_pj, lt_st, bq_s, bV_s, bI_s, bJ_s, bA_s, nz_0, nc_0, nz_1, nc_1, nz_2, nc_2, nz_3, nc_3, nz_4, nc_4, nz_5, nc_5, nz_6, nc_6, nz_7, nc_7, nz_8, nc_8, nz_9, nc_9, nz_10, nc_10, nz_11, nc_11, nz_12, nc_12, if_true, if_false, eq_self, true_and, and_true, false_or, or_false, true_or, or_true, false_and, and_false, not_true, not_false_eq_true, ne_eq, ite_self, ite_not, ↓reduceIte]
            · rw [if_neg hu, if_pos nI_0, if_neg (show ¬ (y < nI 10 ∧ und (kd (I 230) W H q) y) from fun h => hu h.2)]
          · rw [if_neg hy, if_pos nI_0, if_neg (show ¬ (y < nI 10 ∧ und (kd (I 230) W H q) y) from fun h => hy h.1)]
    · rw [if_neg hok]
      refine ⟨I, ⟨fun _ _ => rfl, fun _ _ => rfl⟩, ?_⟩
      have hn : ¬ ((¬ y < 0 ∧ ¬ nI 7 < y) ∨ (¬ y < nI 10 ∧ ¬ nI 14 < y)) := fun h => hok ⟨hx, okTk_iff.mp h⟩
      rw [if_neg (show ¬ (¬ y < nI 0 ∧ ¬ nI 7 < y) from fun h => hn (Or.inl (by rw [n_i0]; exact h))), if_pos nI_0, m151 (by decide) (by decide), bI_s, if_neg (show ¬ (¬ y < nI 10 ∧ ¬ nI 14 < y) from fun h => hn (Or.inr h)), if_pos nI_0] at e0
      exact e0
  · rw [if_neg hx, if_pos nI_0] at e0
    rw [if_neg (fun h => hx h.1)]
    exact ⟨I, ⟨fun _ _ => rfl, fun _ _ => rfl⟩, e0⟩
end I8s
