/-! ===== words: the reader's question; the model's ===== -/
section J5s
variable {I I' : mI} {J : mJ} {d k n q p i c m a e b L j : Nat} {x y z u v : Int32} {T : Nat → Nat} {t : Tok} {w cs : List Nat} {ws : List (List Nat)} {f : Option Nat} {xs : Nat → Int32} {c1 c2 c3 c4 c5 c6 : Nat}
theorem k29 (hF : FX L xs I) (hT : okT T n) (hX : TxC I T n) (hL : LxC I T n t) (ht : okK n t) (hi : i < 12) (hw : txW i = [w]) : am_cal (d + 2) 29 [.ref 199, .ref (4000000 + i)] (mS I J) = some (some (.int (if wdW T t w then nI 1 else nI 0)), mS I J) := by
  have l5 := hL.2.2.2.1
  have h30 := k30 (d := d) (J := J) hF hT hX hL ht hi
  have hp : plc T t (txW i) 0 = if wdW T t w then nI 0 else Int32.ofInt (-1) := by rw [hw]; rfl
  rw [c_29 lc_199]
  simp only [lc_199, l5, nm_iff hT, bq_s, mS_c, mS_l, mS_r, mS_i, mS_j, mS_pi, mS_pj, lt_st, bq_s, bV_s, bI_s, bJ_s, bA_s, nz_0, nc_0, nz_1, nc_1, nz_2, nc_2, nz_3, nc_3, nz_4, nc_4, nz_5, nc_5, nz_6, nc_6, nz_7, nc_7, nz_8, nc_8, nz_9, nc_9, nz_10, nc_10, nz_11, nc_11, nz_12, nc_12, if_true, if_false, eq_self, true_and, and_true, false_or, or_false, true_or, or_true, false_and, and_false, not_true, not_false_eq_true, ne_eq, ite_self, ite_not, ↓reduceIte, n_101, n_107, n_11]
  by_cases h : t.1 < n ∧ ltr (T t.1)
  · rw [if_pos h, h30, bI_s, hp]
    by_cases hh : wdW T t w
    · rw [if_pos hh, if_pos nI_0, if_pos hh]
    · rw [if_neg hh, if_neg (by decide), if_neg hh]
  · rw [if_neg h, if_neg (fun hh => h (wdW_nm ht hi (by rw [hw]; exact List.mem_cons_self ..) hh))]
theorem m184l (hT : okT T n) (hX : TxM I T n) (hL : LxM I t) (ht : okK n t) (hj : j < 10) (hc : ltr c) : am_cal (d + 2) 184 [.ref 229, .int (nI j), .int (nI c)] (mS I J) = some (some (.int (if t.1 + j < n ∧ T (t.1 + j) = c then nI 1 else nI 0)), mS I J) := by
  have hn := hT.1
  have h0 : ¬ nI c = 0 := by rw [n_i0, n_eq (by omega) (by decide)]; omega
  have ht2 := ht.2.1
  have ht1 := ht.1
  rw [c_184 lc_229, if_neg h0]
  simp only [lc_229, hL.1, nI_add, m178 hT hX (show t.1 + j < 2 ^ 31 by omega), lc_229, lr_229_0, lc_230, ll_230, bq_s, mS_c, mS_l, mS_r, mS_i, mS_j, mS_pi, mS_pj, lt_st, bq_s, bV_s, bI_s, bJ_s, bA_s, nz_0, nc_0, nz_1, nc_1, nz_2, nc_2, nz_3, nc_3, nz_4, nc_4, nz_5, nc_5, nz_6, nc_6, nz_7, nc_7, nz_8, nc_8, nz_9, nc_9, nz_10, nc_10, nz_11, nc_11, nz_12, nc_12, if_true, if_false, eq_self, true_and, and_true, false_or, or_false, true_or, or_true, false_and, and_false, not_true, not_false_eq_true, ne_eq, ite_self, ite_not, ↓reduceIte]
  unfold bA
  by_cases h : t.1 + j < n
  · have := hT.2 _ h
    rw [if_pos h]
    simp only [n_eq (show T (t.1 + j) < 2 ^ 31 by omega) (show c < 2 ^ 31 by omega)]
    by_cases h2 : T (t.1 + j) = c
    · rw [if_pos h2, if_pos ⟨h, h2⟩]
    · rw [if_neg h2, if_neg (fun hh => h2 hh.2)]
  · have hm : ¬ Int32.ofInt (-1) = nI c := fun hh => by
      have h1 : ¬ nI c < 0 := nI_pos (by omega)
      rw [← hh] at h1
      exact h1 (by decide)
    rw [if_neg h, if_neg hm, if_neg (fun hh => h hh.1)]
theorem m184z : am_cal (d + 2) 184 [.ref 229, .int x, .int (nI 0)] (mS I J) = some (some (.int (nI 1)), mS I J) := by
  rw [c_184 lc_229, if_pos nI_0]
theorem lt_nz (hc : ltr c) : (nI c = 0) = False := eq_false (by rw [n_i0, n_eq (by omega) (by decide)]; omega)
theorem m185_2 (hT : okT T n) (hX : TxM I T n) (hL : LxM I t) (ht : okK n t) (h1 : ltr c1) (h2 : ltr c2) : am_cal (d + 3) 185 [.ref 229, .int (nI c1), .int (nI c2), .int (nI 0), .int (nI 0), .int (nI 0), .int (nI 0)] (mS I J) = some (some (.int (if wdW T t [c1, c2] then nI 1 else nI 0)), mS I J) := by
  have hn := hT.1
  have ht2 := ht.2.1
  have ht1 := ht.1
  have iff : wdW T t [c1, c2] ↔ (t.2 - t.1 = 2 ∧ T (t.1 + 0) = c1 ∧ T (t.1 + 1) = c2) := by
    rw [wdW_iff ht.1]
    constructor
    · rintro ⟨a, b⟩
      exact ⟨a, b 0 (by simp), b 1 (by simp)⟩
    · rintro ⟨a, b0, b1⟩
      refine ⟨a, fun j hj => ?_⟩
      rcases (show j = 0 ∨ j = 1 by have hj2 : j < 2 := hj; omega) with rfl | rfl
      · exact b0
      · exact b1
  rw [c_185 lc_229]
  simp only [z_t, if_true]
  rw [e_185_17]
  simp only [lc_229, hL.1, hL.2, n_sub ht.1, n_eq (show t.2 - t.1 < 2 ^ 31 by omega) (show 2 < 2 ^ 31 by decide), m184l hT hX hL ht (show 0 < 10 by decide) h1, m184l hT hX hL ht (show 1 < 10 by decide) h2, m184z, e_185_57, z_f, lc_229, lr_229_0, lc_230, ll_230, bq_s, mS_c, mS_l, mS_r, mS_i, mS_j, mS_pi, mS_pj, lt_st, bq_s, bV_s, bI_s, bJ_s, bA_s, nz_0, nc_0, nz_1, nc_1, nz_2, nc_2, nz_3, nc_3, nz_4, nc_4, nz_5, nc_5, nz_6, nc_6, nz_7, nc_7, nz_8, nc_8, nz_9, nc_9, nz_10, nc_10, nz_11, nc_11, nz_12, nc_12, if_true, if_false, eq_self, true_and, and_true, false_or, or_false, true_or, or_true, false_and, and_false, not_true, not_false_eq_true, ne_eq, ite_self, ite_not, ↓reduceIte]
  by_cases hd : t.2 - t.1 = 2
  · rw [if_pos hd]
    by_cases g0 : t.1 + 0 < n ∧ T (t.1 + 0) = c1
    · rw [if_pos g0, if_neg (by decide)]
      by_cases g1 : t.1 + 1 < n ∧ T (t.1 + 1) = c2
      · rw [if_pos g1, if_neg (by decide)]
        rw [if_pos (iff.mpr ⟨hd, g0.2, g1.2⟩)]
      · rw [if_neg g1, if_pos nI_0, if_neg (fun h => g1 ⟨by omega, (iff.mp h).2.2⟩)]
    · rw [if_neg g0, if_pos nI_0, if_neg (fun h => g0 ⟨by omega, (iff.mp h).2.1⟩)]
  · rw [if_neg hd, if_neg (fun h => hd (iff.mp h).1)]
theorem m185_3 (hT : okT T n) (hX : TxM I T n) (hL : LxM I t) (ht : okK n t) (h1 : ltr c1) (h2 : ltr c2) (h3 : ltr c3) : am_cal (d + 3) 185 [.ref 229, .int (nI c1), .int (nI c2), .int (nI c3), .int (nI 0), .int (nI 0), .int (nI 0)] (mS I J) = some (some (.int (if wdW T t [c1, c2, c3] then nI 1 else nI 0)), mS I J) := by
  have hn := hT.1
  have ht2 := ht.2.1
  have ht1 := ht.1
  have iff : wdW T t [c1, c2, c3] ↔ (t.2 - t.1 = 3 ∧ T (t.1 + 0) = c1 ∧ T (t.1 + 1) = c2 ∧ T (t.1 + 2) = c3) := by
    rw [wdW_iff ht.1]
    constructor
    · rintro ⟨a, b⟩
      exact ⟨a, b 0 (by simp), b 1 (by simp), b 2 (by simp)⟩
    · rintro ⟨a, b0, b1, b2⟩
      refine ⟨a, fun j hj => ?_⟩
      rcases (show j = 0 ∨ j = 1 ∨ j = 2 by have hj2 : j < 3 := hj; omega) with rfl | rfl | rfl
      · exact b0
      · exact b1
      · exact b2
  rw [c_185 lc_229]
  simp only [lt_nz h3, z_t, if_true, if_false]
  rw [e_185_17]
  simp only [lc_229, hL.1, hL.2, n_sub ht.1, n_eq (show t.2 - t.1 < 2 ^ 31 by omega) (show 3 < 2 ^ 31 by decide), m184l hT hX hL ht (show 0 < 10 by decide) h1, m184l hT hX hL ht (show 1 < 10 by decide) h2, m184l hT hX hL ht (show 2 < 10 by decide) h3, m184z, e_185_57, z_f, lc_229, lr_229_0, lc_230, ll_230, bq_s, mS_c, mS_l, mS_r, mS_i, mS_j, mS_pi, mS_pj, lt_st, bq_s, bV_s, bI_s, bJ_s, bA_s, nz_0, nc_0, nz_1, nc_1, nz_2, nc_2, nz_3, nc_3, nz_4, nc_4, nz_5, nc_5, nz_6, nc_6, nz_7, nc_7, nz_8, nc_8, nz_9, nc_9, nz_10, nc_10, nz_11, nc_11, nz_12, nc_12, if_true, if_false, eq_self, true_and, and_true, false_or, or_false, true_or, or_true, false_and, and_false, not_true, not_false_eq_true, ne_eq, ite_self, ite_not, ↓reduceIte]
  by_cases hd : t.2 - t.1 = 3
  · rw [if_pos hd]
    by_cases g0 : t.1 + 0 < n ∧ T (t.1 + 0) = c1
    · rw [if_pos g0, if_neg (by decide)]
      by_cases g1 : t.1 + 1 < n ∧ T (t.1 + 1) = c2
      · rw [if_pos g1, if_neg (by decide)]
        by_cases g2 : t.1 + 2 < n ∧ T (t.1 + 2) = c3
        · rw [if_pos g2, if_neg (by decide)]
          rw [if_pos (iff.mpr ⟨hd, g0.2, g1.2, g2.2⟩)]
        · rw [if_neg g2, if_pos nI_0, if_neg (fun h => g2 ⟨by omega, (iff.mp h).2.2.2⟩)]
      · rw [if_neg g1, if_pos nI_0, if_neg (fun h => g1 ⟨by omega, (iff.mp h).2.2.1⟩)]
    · rw [if_neg g0, if_pos nI_0, if_neg (fun h => g0 ⟨by omega, (iff.mp h).2.1⟩)]
  · rw [if_neg hd, if_neg (fun h => hd (iff.mp h).1)]
theorem m185_4 (hT : okT T n) (hX : TxM I T n) (hL : LxM I t) (ht : okK n t) (h1 : ltr c1) (h2 : ltr c2) (h3 : ltr c3) (h4 : ltr c4) : am_cal (d + 3) 185 [.ref 229, .int (nI c1), .int (nI c2), .int (nI c3), .int (nI c4), .int (nI 0), .int (nI 0)] (mS I J) = some (some (.int (if wdW T t [c1, c2, c3, c4] then nI 1 else nI 0)), mS I J) := by
  have hn := hT.1
  have ht2 := ht.2.1
  have ht1 := ht.1
  have iff : wdW T t [c1, c2, c3, c4] ↔ (t.2 - t.1 = 4 ∧ T (t.1 + 0) = c1 ∧ T (t.1 + 1) = c2 ∧ T (t.1 + 2) = c3 ∧ T (t.1 + 3) = c4) := by
    rw [wdW_iff ht.1]
    constructor
    · rintro ⟨a, b⟩
      exact ⟨a, b 0 (by simp), b 1 (by simp), b 2 (by simp), b 3 (by simp)⟩
    · rintro ⟨a, b0, b1, b2, b3⟩
      refine ⟨a, fun j hj => ?_⟩
      rcases (show j = 0 ∨ j = 1 ∨ j = 2 ∨ j = 3 by have hj2 : j < 4 := hj; omega) with rfl | rfl | rfl | rfl
      · exact b0
      · exact b1
      · exact b2
      · exact b3
  rw [c_185 lc_229]
  simp only [lt_nz h3, lt_nz h4, z_t, if_true, if_false]
  rw [e_185_17]
  simp only [lc_229, hL.1, hL.2, n_sub ht.1, n_eq (show t.2 - t.1 < 2 ^ 31 by omega) (show 4 < 2 ^ 31 by decide), m184l hT hX hL ht (show 0 < 10 by decide) h1, m184l hT hX hL ht (show 1 < 10 by decide) h2, m184l hT hX hL ht (show 2 < 10 by decide) h3, m184l hT hX hL ht (show 3 < 10 by decide) h4, m184z, e_185_57, z_f, lc_229, lr_229_0, lc_230, ll_230, bq_s, mS_c, mS_l, mS_r, mS_i, mS_j, mS_pi, mS_pj, lt_st, bq_s, bV_s, bI_s, bJ_s, bA_s, nz_0, nc_0, nz_1, nc_1, nz_2, nc_2, nz_3, nc_3, nz_4, nc_4, nz_5, nc_5, nz_6, nc_6, nz_7, nc_7, nz_8, nc_8, nz_9, nc_9, nz_10, nc_10, nz_11, nc_11, nz_12, nc_12, if_true, if_false, eq_self, true_and, and_true, false_or, or_false, true_or, or_true, false_and, and_false, not_true, not_false_eq_true, ne_eq, ite_self, ite_not, ↓reduceIte]
  by_cases hd : t.2 - t.1 = 4
  · rw [if_pos hd]
    by_cases g0 : t.1 + 0 < n ∧ T (t.1 + 0) = c1
    · rw [if_pos g0, if_neg (by decide)]
      by_cases g1 : t.1 + 1 < n ∧ T (t.1 + 1) = c2
      · rw [if_pos g1, if_neg (by decide)]
        by_cases g2 : t.1 + 2 < n ∧ T (t.1 + 2) = c3
        · rw [if_pos g2, if_neg (by decide)]
          by_cases g3 : t.1 + 3 < n ∧ T (t.1 + 3) = c4
          · rw [if_pos g3, if_neg (by decide)]
            rw [if_pos (iff.mpr ⟨hd, g0.2, g1.2, g2.2, g3.2⟩)]
          · rw [if_neg g3, if_pos nI_0, if_neg (fun h => g3 ⟨by omega, (iff.mp h).2.2.2.2⟩)]
        · rw [if_neg g2, if_pos nI_0, if_neg (fun h => g2 ⟨by omega, (iff.mp h).2.2.2.1⟩)]
      · rw [if_neg g1, if_pos nI_0, if_neg (fun h => g1 ⟨by omega, (iff.mp h).2.2.1⟩)]
    · rw [if_neg g0, if_pos nI_0, if_neg (fun h => g0 ⟨by omega, (iff.mp h).2.1⟩)]
  · rw [if_neg hd, if_neg (fun h => hd (iff.mp h).1)]
theorem m185_5 (hT : okT T n) (hX : TxM I T n) (hL : LxM I t) (ht : okK n t) (h1 : ltr c1) (h2 : ltr c2) (h3 : ltr c3) (h4 : ltr c4) (h5 : ltr c5) : am_cal (d + 3) 185 [.ref 229, .int (nI c1), .int (nI c2), .int (nI c3), .int (nI c4), .int (nI c5), .int (nI 0)] (mS I J) = some (some (.int (if wdW T t [c1, c2, c3, c4, c5] then nI 1 else nI 0)), mS I J) := by
  have hn := hT.1
  have ht2 := ht.2.1
  have ht1 := ht.1
  have iff : wdW T t [c1, c2, c3, c4, c5] ↔ (t.2 - t.1 = 5 ∧ T (t.1 + 0) = c1 ∧ T (t.1 + 1) = c2 ∧ T (t.1 + 2) = c3 ∧ T (t.1 + 3) = c4 ∧ T (t.1 + 4) = c5) := by
    rw [wdW_iff ht.1]
    constructor
    · rintro ⟨a, b⟩
      exact ⟨a, b 0 (by simp), b 1 (by simp), b 2 (by simp), b 3 (by simp), b 4 (by simp)⟩
    · rintro ⟨a, b0, b1, b2, b3, b4⟩
      refine ⟨a, fun j hj => ?_⟩
      rcases (show j = 0 ∨ j = 1 ∨ j = 2 ∨ j = 3 ∨ j = 4 by have hj2 : j < 5 := hj; omega) with rfl | rfl | rfl | rfl | rfl
      · exact b0
      · exact b1
      · exact b2
      · exact b3
      · exact b4
  rw [c_185 lc_229]
  simp only [lt_nz h3, lt_nz h4, lt_nz h5, z_t, if_true, if_false]
  rw [e_185_17]
  simp only [lc_229, hL.1, hL.2, n_sub ht.1, n_eq (show t.2 - t.1 < 2 ^ 31 by omega) (show 5 < 2 ^ 31 by decide), m184l hT hX hL ht (show 0 < 10 by decide) h1, m184l hT hX hL ht (show 1 < 10 by decide) h2, m184l hT hX hL ht (show 2 < 10 by decide) h3, m184l hT hX hL ht (show 3 < 10 by decide) h4, m184l hT hX hL ht (show 4 < 10 by decide) h5, m184z, e_185_57, z_f, lc_229, lr_229_0, lc_230, ll_230, bq_s, mS_c, mS_l, mS_r, mS_i, mS_j, mS_pi, mS_pj, lt_st, bq_s, bV_s, bI_s, bJ_s, bA_s, nz_0, nc_0, nz_1, nc_1, nz_2, nc_2, nz_3, nc_3, nz_4, nc_4, nz_5, nc_5, nz_6, nc_6, nz_7, nc_7, nz_8, nc_8, nz_9, nc_9, nz_10, nc_10, nz_11, nc_11, nz_12, nc_12, if_true, if_false, eq_self, true_and, and_true, false_or, or_false, true_or, or_true, false_and, and_false, not_true, not_false_eq_true, ne_eq, ite_self, ite_not, ↓reduceIte]
  by_cases hd : t.2 - t.1 = 5
  · rw [if_pos hd]
    by_cases g0 : t.1 + 0 < n ∧ T (t.1 + 0) = c1
    · rw [if_pos g0, if_neg (by decide)]
      by_cases g1 : t.1 + 1 < n ∧ T (t.1 + 1) = c2
      · rw [if_pos g1, if_neg (by decide)]
        by_cases g2 : t.1 + 2 < n ∧ T (t.1 + 2) = c3
        · rw [if_pos g2, if_neg (by decide)]
          by_cases g3 : t.1 + 3 < n ∧ T (t.1 + 3) = c4
          · rw [if_pos g3, if_neg (by decide)]
            by_cases g4 : t.1 + 4 < n ∧ T (t.1 + 4) = c5
            · rw [if_pos g4, if_neg (by decide)]
              rw [if_pos (iff.mpr ⟨hd, g0.2, g1.2, g2.2, g3.2, g4.2⟩)]
            · rw [if_neg g4, if_pos nI_0, if_neg (fun h => g4 ⟨by omega, (iff.mp h).2.2.2.2.2⟩)]
          · rw [if_neg g3, if_pos nI_0, if_neg (fun h => g3 ⟨by omega, (iff.mp h).2.2.2.2.1⟩)]
        · rw [if_neg g2, if_pos nI_0, if_neg (fun h => g2 ⟨by omega, (iff.mp h).2.2.2.1⟩)]
      · rw [if_neg g1, if_pos nI_0, if_neg (fun h => g1 ⟨by omega, (iff.mp h).2.2.1⟩)]
    · rw [if_neg g0, if_pos nI_0, if_neg (fun h => g0 ⟨by omega, (iff.mp h).2.1⟩)]
  · rw [if_neg hd, if_neg (fun h => hd (iff.mp h).1)]
theorem m185_6 (hT : okT T n) (hX : TxM I T n) (hL : LxM I t) (ht : okK n t) (h1 : ltr c1) (h2 : ltr c2) (h3 : ltr c3) (h4 : ltr c4) (h5 : ltr c5) (h6 : ltr c6) : am_cal (d + 3) 185 [.ref 229, .int (nI c1), .int (nI c2), .int (nI c3), .int (nI c4), .int (nI c5), .int (nI c6)] (mS I J) = some (some (.int (if wdW T t [c1, c2, c3, c4, c5, c6] then nI 1 else nI 0)), mS I J) := by
  have hn := hT.1
  have ht2 := ht.2.1
  have ht1 := ht.1
  have iff : wdW T t [c1, c2, c3, c4, c5, c6] ↔ (t.2 - t.1 = 6 ∧ T (t.1 + 0) = c1 ∧ T (t.1 + 1) = c2 ∧ T (t.1 + 2) = c3 ∧ T (t.1 + 3) = c4 ∧ T (t.1 + 4) = c5 ∧ T (t.1 + 5) = c6) := by
    rw [wdW_iff ht.1]
    constructor
    · rintro ⟨a, b⟩
      exact ⟨a, b 0 (by simp), b 1 (by simp), b 2 (by simp), b 3 (by simp), b 4 (by simp), b 5 (by simp)⟩
    · rintro ⟨a, b0, b1, b2, b3, b4, b5⟩
      refine ⟨a, fun j hj => ?_⟩
      rcases (show j = 0 ∨ j = 1 ∨ j = 2 ∨ j = 3 ∨ j = 4 ∨ j = 5 by have hj2 : j < 6 := hj; omega) with rfl | rfl | rfl | rfl | rfl | rfl
      · exact b0
      · exact b1
      · exact b2
      · exact b3
      · exact b4
      · exact b5
  rw [c_185 lc_229]
  simp only [lt_nz h3, lt_nz h4, lt_nz h5, lt_nz h6, z_t, if_true, if_false]
  rw [e_185_17]
  simp only [lc_229, hL.1, hL.2, n_sub ht.1, n_eq (show t.2 - t.1 < 2 ^ 31 by omega) (show 6 < 2 ^ 31 by decide), m184l hT hX hL ht (show 0 < 10 by decide) h1, m184l hT hX hL ht (show 1 < 10 by decide) h2, m184l hT hX hL ht (show 2 < 10 by decide) h3, m184l hT hX hL ht (show 3 < 10 by decide) h4, m184l hT hX hL ht (show 4 < 10 by decide) h5, m184l hT hX hL ht (show 5 < 10 by decide) h6, m184z, e_185_57, z_f, lc_229, lr_229_0, lc_230, ll_230, bq_s, mS_c, mS_l, mS_r, mS_i, mS_j, mS_pi, mS_pj, lt_st, bq_s, bV_s, bI_s, bJ_s, bA_s, nz_0, nc_0, nz_1, nc_1, nz_2, nc_2, nz_3, nc_3, nz_4, nc_4, nz_5, nc_5, nz_6, nc_6, nz_7, nc_7, nz_8, nc_8, nz_9, nc_9, nz_10, nc_10, nz_11, nc_11, nz_12, nc_12, if_true, if_false, eq_self, true_and, and_true, false_or, or_false, true_or, or_true, false_and, and_false, not_true, not_false_eq_true, ne_eq, ite_self, ite_not, ↓reduceIte]
  by_cases hd : t.2 - t.1 = 6
  · rw [if_pos hd]
    by_cases g0 : t.1 + 0 < n ∧ T (t.1 + 0) = c1
    · rw [if_pos g0, if_neg (by decide)]
      by_cases g1 : t.1 + 1 < n ∧ T (t.1 + 1) = c2
      · rw [if_pos g1, if_neg (by decide)]
        by_cases g2 : t.1 + 2 < n ∧ T (t.1 + 2) = c3
        · rw [if_pos g2, if_neg (by decide)]
          by_cases g3 : t.1 + 3 < n ∧ T (t.1 + 3) = c4
          · rw [if_pos g3, if_neg (by decide)]
            by_cases g4 : t.1 + 4 < n ∧ T (t.1 + 4) = c5
            · rw [if_pos g4, if_neg (by decide)]
              by_cases g5 : t.1 + 5 < n ∧ T (t.1 + 5) = c6
              · rw [if_pos g5, if_neg (by decide)]
                rw [if_pos (iff.mpr ⟨hd, g0.2, g1.2, g2.2, g3.2, g4.2, g5.2⟩)]
              · rw [if_neg g5, if_pos nI_0, if_neg (fun h => g5 ⟨by omega, (iff.mp h).2.2.2.2.2.2⟩)]
            · rw [if_neg g4, if_pos nI_0, if_neg (fun h => g4 ⟨by omega, (iff.mp h).2.2.2.2.2.1⟩)]
          · rw [if_neg g3, if_pos nI_0, if_neg (fun h => g3 ⟨by omega, (iff.mp h).2.2.2.2.1⟩)]
        · rw [if_neg g2, if_pos nI_0, if_neg (fun h => g2 ⟨by omega, (iff.mp h).2.2.2.1⟩)]
      · rw [if_neg g1, if_pos nI_0, if_neg (fun h => g1 ⟨by omega, (iff.mp h).2.2.1⟩)]
    · rw [if_neg g0, if_pos nI_0, if_neg (fun h => g0 ⟨by omega, (iff.mp h).2.1⟩)]
  · rw [if_neg hd, if_neg (fun h => hd (iff.mp h).1)]
theorem m186 (hT : okT T n) (hX : TxM I T n) (hL : LxM I t) (ht : okK n t) : am_cal (d + 4) 186 [.ref 229] (mS I J) = some (some (.int (plc T t ([[111, 119, 101, 115], [111, 119, 110, 115], [98, 108, 97, 109, 101], [118, 111, 116, 101], [119, 101, 100], [108, 101, 97, 118, 101], [115, 108, 101, 101, 112]]) 0)), mS I J) := by
  rw [c_186 lc_229]
  simp only [m185_4 hT hX hL ht (show ltr 111 by decide) (show ltr 119 by decide) (show ltr 101 by decide) (show ltr 115 by decide), m185_4 hT hX hL ht (show ltr 111 by decide) (show ltr 119 by decide) (show ltr 110 by decide) (show ltr 115 by decide), m185_5 hT hX hL ht (show ltr 98 by decide) (show ltr 108 by decide) (show ltr 97 by decide) (show ltr 109 by decide) (show ltr 101 by decide), m185_4 hT hX hL ht (show ltr 118 by decide) (show ltr 111 by decide) (show ltr 116 by decide) (show ltr 101 by decide), m185_3 hT hX hL ht (show ltr 119 by decide) (show ltr 101 by decide) (show ltr 100 by decide), m185_5 hT hX hL ht (show ltr 108 by decide) (show ltr 101 by decide) (show ltr 97 by decide) (show ltr 118 by decide) (show ltr 101 by decide), m185_5 hT hX hL ht (show ltr 115 by decide) (show ltr 108 by decide) (show ltr 101 by decide) (show ltr 101 by decide) (show ltr 112 by decide), bI_s, plc]
  by_cases g0 : wdW T t [111, 119, 101, 115]
  · rw [if_pos g0, if_neg (by decide), if_pos g0]
  rw [if_neg g0, if_pos nI_0, if_neg g0]
  by_cases g1 : wdW T t [111, 119, 110, 115]
  · rw [if_pos g1, if_neg (by decide), if_pos g1]
  rw [if_neg g1, if_pos nI_0, if_neg g1]
  by_cases g2 : wdW T t [98, 108, 97, 109, 101]
  · rw [if_pos g2, if_neg (by decide), if_pos g2]
  rw [if_neg g2, if_pos nI_0, if_neg g2]
  by_cases g3 : wdW T t [118, 111, 116, 101]
  · rw [if_pos g3, if_neg (by decide), if_pos g3]
  rw [if_neg g3, if_pos nI_0, if_neg g3]
  by_cases g4 : wdW T t [119, 101, 100]
  · rw [if_pos g4, if_neg (by decide), if_pos g4]
  rw [if_neg g4, if_pos nI_0, if_neg g4]
  by_cases g5 : wdW T t [108, 101, 97, 118, 101]
  · rw [if_pos g5, if_neg (by decide), if_pos g5]
  rw [if_neg g5, if_pos nI_0, if_neg g5]
  by_cases g6 : wdW T t [115, 108, 101, 101, 112]
  · rw [if_pos g6, if_neg (by decide), if_pos g6]
  rw [if_neg g6, if_pos nI_0, if_neg g6]
theorem m188 (hT : okT T n) (hX : TxM I T n) (hL : LxM I t) (ht : okK n t) : am_cal (d + 4) 188 [.ref 229] (mS I J) = some (some (.int (plc T t ([[100, 97, 121], [109, 97, 100, 101], [103, 97, 112], [107, 105, 110, 100], [97, 109, 111, 117, 110, 116], [104, 101, 108, 100]]) 0)), mS I J) := by
  rw [c_188 lc_229]
  simp only [m185_3 hT hX hL ht (show ltr 100 by decide) (show ltr 97 by decide) (show ltr 121 by decide), m185_4 hT hX hL ht (show ltr 109 by decide) (show ltr 97 by decide) (show ltr 100 by decide) (show ltr 101 by decide), m185_3 hT hX hL ht (show ltr 103 by decide) (show ltr 97 by decide) (show ltr 112 by decide), m185_4 hT hX hL ht (show ltr 107 by decide) (show ltr 105 by decide) (show ltr 110 by decide) (show ltr 100 by decide), m185_6 hT hX hL ht (show ltr 97 by decide) (show ltr 109 by decide) (show ltr 111 by decide) (show ltr 117 by decide) (show ltr 110 by decide) (show ltr 116 by decide), m185_4 hT hX hL ht (show ltr 104 by decide) (show ltr 101 by decide) (show ltr 108 by decide) (show ltr 100 by decide), bI_s, plc]
  by_cases g0 : wdW T t [100, 97, 121]
  · rw [if_pos g0, if_neg (by decide), if_pos g0]
  rw [if_neg g0, if_pos nI_0, if_neg g0]
  by_cases g1 : wdW T t [109, 97, 100, 101]
  · rw [if_pos g1, if_neg (by decide), if_pos g1]
  rw [if_neg g1, if_pos nI_0, if_neg g1]
  by_cases g2 : wdW T t [103, 97, 112]
  · rw [if_pos g2, if_neg (by decide), if_pos g2]
  rw [if_neg g2, if_pos nI_0, if_neg g2]
  by_cases g3 : wdW T t [107, 105, 110, 100]
  · rw [if_pos g3, if_neg (by decide), if_pos g3]
  rw [if_neg g3, if_pos nI_0, if_neg g3]
  by_cases g4 : wdW T t [97, 109, 111, 117, 110, 116]
  · rw [if_pos g4, if_neg (by decide), if_pos g4]
  rw [if_neg g4, if_pos nI_0, if_neg g4]
  by_cases g5 : wdW T t [104, 101, 108, 100]
  · rw [if_pos g5, if_neg (by decide), if_pos g5]
  rw [if_neg g5, if_pos nI_0, if_neg g5]
def vtx (k : Nat) : Nat := if k ≤ 1 then 0 else k - 1
theorem m187_0 (hT : okT T n) (hX : TxM I T n) (hL : LxM I t) (ht : okK n t) : am_cal (d + 4) 187 [.ref 229, .int (nI 0)] (mS I J) = some (some (.int (plc T t ([[102, 105, 114, 115, 116], [99, 111, 112, 121], [115, 104, 97, 114, 101, 100], [97, 108, 108]]) 0)), mS I J) := by
  rw [c_187 lc_229]
  simp only [nn_0_1, nn_0_2, nn_0_3, nn_0_4, nn_0_5, nn_0_6, nn_0_7, nn_0_8, nn_1_0, nn_1_2, nn_1_3, nn_1_4, nn_1_5, nn_1_6, nn_1_7, nn_1_8, nn_2_0, nn_2_1, nn_2_3, nn_2_4, nn_2_5, nn_2_6, nn_2_7, nn_2_8, nn_3_0, nn_3_1, nn_3_2, nn_3_4, nn_3_5, nn_3_6, nn_3_7, nn_3_8, nn_4_0, nn_4_1, nn_4_2, nn_4_3, nn_4_5, nn_4_6, nn_4_7, nn_4_8, nn_5_0, nn_5_1, nn_5_2, nn_5_3, nn_5_4, nn_5_6, nn_5_7, nn_5_8, nn_6_0, nn_6_1, nn_6_2, nn_6_3, nn_6_4, nn_6_5, nn_6_7, nn_6_8, nn_7_0, nn_7_1, nn_7_2, nn_7_3, nn_7_4, nn_7_5, nn_7_6, nn_7_8, nn_8_0, nn_8_1, nn_8_2, nn_8_3, nn_8_4, nn_8_5, nn_8_6, nn_8_7, nq_0, nq_1, nq_2, nq_3, nq_4, nq_5, nq_6, nq_7, nq_8, eq_self, if_true, if_false, m185_5 hT hX hL ht (show ltr 102 by decide) (show ltr 105 by decide) (show ltr 114 by decide) (show ltr 115 by decide) (show ltr 116 by decide), m185_4 hT hX hL ht (show ltr 99 by decide) (show ltr 111 by decide) (show ltr 112 by decide) (show ltr 121 by decide), m185_6 hT hX hL ht (show ltr 115 by decide) (show ltr 104 by decide) (show ltr 97 by decide) (show ltr 114 by decide) (show ltr 101 by decide) (show ltr 100 by decide), m185_3 hT hX hL ht (show ltr 97 by decide) (show ltr 108 by decide) (show ltr 108 by decide), bI_s, plc, e_187_47, e_187_82, e_187_117, e_187_163, e_187_187, e_187_211]
  by_cases g0 : wdW T t [102, 105, 114, 115, 116]
  · rw [if_pos g0, if_neg (by decide), if_pos g0]
  rw [if_neg g0, if_pos nI_0, if_neg g0]
  by_cases g1 : wdW T t [99, 111, 112, 121]
  · rw [if_pos g1, if_neg (by decide), if_pos g1]
  rw [if_neg g1, if_pos nI_0, if_neg g1]
  by_cases g2 : wdW T t [115, 104, 97, 114, 101, 100]
  · rw [if_pos g2, if_neg (by decide), if_pos g2]
  rw [if_neg g2, if_pos nI_0, if_neg g2]
  by_cases g3 : wdW T t [97, 108, 108]
  · rw [if_pos g3, if_neg (by decide), if_pos g3]
  rw [if_neg g3, if_pos nI_0, if_neg g3]
theorem m187_1 (hT : okT T n) (hX : TxM I T n) (hL : LxM I t) (ht : okK n t) : am_cal (d + 4) 187 [.ref 229, .int (nI 1)] (mS I J) = some (some (.int (plc T t ([[102, 105, 114, 115, 116], [99, 111, 112, 121], [115, 104, 97, 114, 101, 100], [97, 108, 108]]) 0)), mS I J) := by
  rw [c_187 lc_229]
  simp only [nn_0_1, nn_0_2, nn_0_3, nn_0_4, nn_0_5, nn_0_6, nn_0_7, nn_0_8, nn_1_0, nn_1_2, nn_1_3, nn_1_4, nn_1_5, nn_1_6, nn_1_7, nn_1_8, nn_2_0, nn_2_1, nn_2_3, nn_2_4, nn_2_5, nn_2_6, nn_2_7, nn_2_8, nn_3_0, nn_3_1, nn_3_2, nn_3_4, nn_3_5, nn_3_6, nn_3_7, nn_3_8, nn_4_0, nn_4_1, nn_4_2, nn_4_3, nn_4_5, nn_4_6, nn_4_7, nn_4_8, nn_5_0, nn_5_1, nn_5_2, nn_5_3, nn_5_4, nn_5_6, nn_5_7, nn_5_8, nn_6_0, nn_6_1, nn_6_2, nn_6_3, nn_6_4, nn_6_5, nn_6_7, nn_6_8, nn_7_0, nn_7_1, nn_7_2, nn_7_3, nn_7_4, nn_7_5, nn_7_6, nn_7_8, nn_8_0, nn_8_1, nn_8_2, nn_8_3, nn_8_4, nn_8_5, nn_8_6, nn_8_7, nq_0, nq_1, nq_2, nq_3, nq_4, nq_5, nq_6, nq_7, nq_8, eq_self, if_true, if_false, m185_5 hT hX hL ht (show ltr 102 by decide) (show ltr 105 by decide) (show ltr 114 by decide) (show ltr 115 by decide) (show ltr 116 by decide), m185_4 hT hX hL ht (show ltr 99 by decide) (show ltr 111 by decide) (show ltr 112 by decide) (show ltr 121 by decide), m185_6 hT hX hL ht (show ltr 115 by decide) (show ltr 104 by decide) (show ltr 97 by decide) (show ltr 114 by decide) (show ltr 101 by decide) (show ltr 100 by decide), m185_3 hT hX hL ht (show ltr 97 by decide) (show ltr 108 by decide) (show ltr 108 by decide), bI_s, plc, e_187_47, e_187_82, e_187_117, e_187_163, e_187_187, e_187_211]
  by_cases g0 : wdW T t [102, 105, 114, 115, 116]
  · rw [if_pos g0, if_neg (by decide), if_pos g0]
  rw [if_neg g0, if_pos nI_0, if_neg g0]
  by_cases g1 : wdW T t [99, 111, 112, 121]
  · rw [if_pos g1, if_neg (by decide), if_pos g1]
  rw [if_neg g1, if_pos nI_0, if_neg g1]
  by_cases g2 : wdW T t [115, 104, 97, 114, 101, 100]
  · rw [if_pos g2, if_neg (by decide), if_pos g2]
  rw [if_neg g2, if_pos nI_0, if_neg g2]
  by_cases g3 : wdW T t [97, 108, 108]
  · rw [if_pos g3, if_neg (by decide), if_pos g3]
  rw [if_neg g3, if_pos nI_0, if_neg g3]
theorem m187_2 (hT : okT T n) (hX : TxM I T n) (hL : LxM I t) (ht : okK n t) : am_cal (d + 4) 187 [.ref 229, .int (nI 2)] (mS I J) = some (some (.int (plc T t ([[98, 111, 100, 121], [109, 101, 109, 111, 114, 121], [114, 111, 111, 116]]) 0)), mS I J) := by
  rw [c_187 lc_229]
  simp only [nn_0_1, nn_0_2, nn_0_3, nn_0_4, nn_0_5, nn_0_6, nn_0_7, nn_0_8, nn_1_0, nn_1_2, nn_1_3, nn_1_4, nn_1_5, nn_1_6, nn_1_7, nn_1_8, nn_2_0, nn_2_1, nn_2_3, nn_2_4, nn_2_5, nn_2_6, nn_2_7, nn_2_8, nn_3_0, nn_3_1, nn_3_2, nn_3_4, nn_3_5, nn_3_6, nn_3_7, nn_3_8, nn_4_0, nn_4_1, nn_4_2, nn_4_3, nn_4_5, nn_4_6, nn_4_7, nn_4_8, nn_5_0, nn_5_1, nn_5_2, nn_5_3, nn_5_4, nn_5_6, nn_5_7, nn_5_8, nn_6_0, nn_6_1, nn_6_2, nn_6_3, nn_6_4, nn_6_5, nn_6_7, nn_6_8, nn_7_0, nn_7_1, nn_7_2, nn_7_3, nn_7_4, nn_7_5, nn_7_6, nn_7_8, nn_8_0, nn_8_1, nn_8_2, nn_8_3, nn_8_4, nn_8_5, nn_8_6, nn_8_7, nq_0, nq_1, nq_2, nq_3, nq_4, nq_5, nq_6, nq_7, nq_8, eq_self, if_true, if_false, m185_4 hT hX hL ht (show ltr 98 by decide) (show ltr 111 by decide) (show ltr 100 by decide) (show ltr 121 by decide), m185_6 hT hX hL ht (show ltr 109 by decide) (show ltr 101 by decide) (show ltr 109 by decide) (show ltr 111 by decide) (show ltr 114 by decide) (show ltr 121 by decide), m185_4 hT hX hL ht (show ltr 114 by decide) (show ltr 111 by decide) (show ltr 111 by decide) (show ltr 116 by decide), bI_s, plc, e_187_47, e_187_82, e_187_117, e_187_163, e_187_187, e_187_211]
  by_cases g0 : wdW T t [98, 111, 100, 121]
  · rw [if_pos g0, if_neg (by decide), if_pos g0]
  rw [if_neg g0, if_pos nI_0, if_neg g0]
  by_cases g1 : wdW T t [109, 101, 109, 111, 114, 121]
  · rw [if_pos g1, if_neg (by decide), if_pos g1]
  rw [if_neg g1, if_pos nI_0, if_neg g1]
  by_cases g2 : wdW T t [114, 111, 111, 116]
  · rw [if_pos g2, if_neg (by decide), if_pos g2]
  rw [if_neg g2, if_pos nI_0, if_neg g2]
theorem m187_3 (hT : okT T n) (hX : TxM I T n) (hL : LxM I t) (ht : okK n t) : am_cal (d + 4) 187 [.ref 229, .int (nI 3)] (mS I J) = some (some (.int (plc T t ([[101, 97, 99, 104], [114, 111, 111, 116], [115, 104, 97, 114, 101]]) 0)), mS I J) := by
  rw [c_187 lc_229]
  simp only [nn_0_1, nn_0_2, nn_0_3, nn_0_4, nn_0_5, nn_0_6, nn_0_7, nn_0_8, nn_1_0, nn_1_2, nn_1_3, nn_1_4, nn_1_5, nn_1_6, nn_1_7, nn_1_8, nn_2_0, nn_2_1, nn_2_3, nn_2_4, nn_2_5, nn_2_6, nn_2_7, nn_2_8, nn_3_0, nn_3_1, nn_3_2, nn_3_4, nn_3_5, nn_3_6, nn_3_7, nn_3_8, nn_4_0, nn_4_1, nn_4_2, nn_4_3, nn_4_5, nn_4_6, nn_4_7, nn_4_8, nn_5_0, nn_5_1, nn_5_2, nn_5_3, nn_5_4, nn_5_6, nn_5_7, nn_5_8, nn_6_0, nn_6_1, nn_6_2, nn_6_3, nn_6_4, nn_6_5, nn_6_7, nn_6_8, nn_7_0, nn_7_1, nn_7_2, nn_7_3, nn_7_4, nn_7_5, nn_7_6, nn_7_8, nn_8_0, nn_8_1, nn_8_2, nn_8_3, nn_8_4, nn_8_5, nn_8_6, nn_8_7, nq_0, nq_1, nq_2, nq_3, nq_4, nq_5, nq_6, nq_7, nq_8, eq_self, if_true, if_false, m185_4 hT hX hL ht (show ltr 101 by decide) (show ltr 97 by decide) (show ltr 99 by decide) (show ltr 104 by decide), m185_4 hT hX hL ht (show ltr 114 by decide) (show ltr 111 by decide) (show ltr 111 by decide) (show ltr 116 by decide), m185_5 hT hX hL ht (show ltr 115 by decide) (show ltr 104 by decide) (show ltr 97 by decide) (show ltr 114 by decide) (show ltr 101 by decide), bI_s, plc, e_187_47, e_187_82, e_187_117, e_187_163, e_187_187, e_187_211]
  by_cases g0 : wdW T t [101, 97, 99, 104]
  · rw [if_pos g0, if_neg (by decide), if_pos g0]
  rw [if_neg g0, if_pos nI_0, if_neg g0]
  by_cases g1 : wdW T t [114, 111, 111, 116]
  · rw [if_pos g1, if_neg (by decide), if_pos g1]
  rw [if_neg g1, if_pos nI_0, if_neg g1]
  by_cases g2 : wdW T t [115, 104, 97, 114, 101]
  · rw [if_pos g2, if_neg (by decide), if_pos g2]
  rw [if_neg g2, if_pos nI_0, if_neg g2]
theorem m187_4 (hT : okT T n) (hX : TxM I T n) (hL : LxM I t) (ht : okK n t) : am_cal (d + 4) 187 [.ref 229, .int (nI 4)] (mS I J) = some (some (.int (plc T t ([[109, 97, 107, 101, 114], [99, 111, 112, 121], [98, 111, 116, 104], [110, 111, 110, 101]]) 0)), mS I J) := by
  rw [c_187 lc_229]
  simp only [nn_0_1, nn_0_2, nn_0_3, nn_0_4, nn_0_5, nn_0_6, nn_0_7, nn_0_8, nn_1_0, nn_1_2, nn_1_3, nn_1_4, nn_1_5, nn_1_6, nn_1_7, nn_1_8, nn_2_0, nn_2_1, nn_2_3, nn_2_4, nn_2_5, nn_2_6, nn_2_7, nn_2_8, nn_3_0, nn_3_1, nn_3_2, nn_3_4, nn_3_5, nn_3_6, nn_3_7, nn_3_8, nn_4_0, nn_4_1, nn_4_2, nn_4_3, nn_4_5, nn_4_6, nn_4_7, nn_4_8, nn_5_0, nn_5_1, nn_5_2, nn_5_3, nn_5_4, nn_5_6, nn_5_7, nn_5_8, nn_6_0, nn_6_1, nn_6_2, nn_6_3, nn_6_4, nn_6_5, nn_6_7, nn_6_8, nn_7_0, nn_7_1, nn_7_2, nn_7_3, nn_7_4, nn_7_5, nn_7_6, nn_7_8, nn_8_0, nn_8_1, nn_8_2, nn_8_3, nn_8_4, nn_8_5, nn_8_6, nn_8_7, nq_0, nq_1, nq_2, nq_3, nq_4, nq_5, nq_6, nq_7, nq_8, eq_self, if_true, if_false, m185_5 hT hX hL ht (show ltr 109 by decide) (show ltr 97 by decide) (show ltr 107 by decide) (show ltr 101 by decide) (show ltr 114 by decide), m185_4 hT hX hL ht (show ltr 99 by decide) (show ltr 111 by decide) (show ltr 112 by decide) (show ltr 121 by decide), m185_4 hT hX hL ht (show ltr 98 by decide) (show ltr 111 by decide) (show ltr 116 by decide) (show ltr 104 by decide), m185_4 hT hX hL ht (show ltr 110 by decide) (show ltr 111 by decide) (show ltr 110 by decide) (show ltr 101 by decide), bI_s, plc, e_187_47, e_187_82, e_187_117, e_187_163, e_187_187, e_187_211]
  by_cases g0 : wdW T t [109, 97, 107, 101, 114]
  · rw [if_pos g0, if_neg (by decide), if_pos g0]
  rw [if_neg g0, if_pos nI_0, if_neg g0]
  by_cases g1 : wdW T t [99, 111, 112, 121]
  · rw [if_pos g1, if_neg (by decide), if_pos g1]
  rw [if_neg g1, if_pos nI_0, if_neg g1]
  by_cases g2 : wdW T t [98, 111, 116, 104]
  · rw [if_pos g2, if_neg (by decide), if_pos g2]
  rw [if_neg g2, if_pos nI_0, if_neg g2]
  by_cases g3 : wdW T t [110, 111, 110, 101]
  · rw [if_pos g3, if_neg (by decide), if_pos g3]
  rw [if_neg g3, if_pos nI_0, if_neg g3]
theorem m187_5 (hT : okT T n) (hX : TxM I T n) (hL : LxM I t) (ht : okK n t) : am_cal (d + 4) 187 [.ref 229, .int (nI 5)] (mS I J) = some (some (.int (plc T t ([[102, 114, 101, 101], [110, 101, 101, 100, 101, 100]]) 0)), mS I J) := by
  rw [c_187 lc_229]
  simp only [nn_0_1, nn_0_2, nn_0_3, nn_0_4, nn_0_5, nn_0_6, nn_0_7, nn_0_8, nn_1_0, nn_1_2, nn_1_3, nn_1_4, nn_1_5, nn_1_6, nn_1_7, nn_1_8, nn_2_0, nn_2_1, nn_2_3, nn_2_4, nn_2_5, nn_2_6, nn_2_7, nn_2_8, nn_3_0, nn_3_1, nn_3_2, nn_3_4, nn_3_5, nn_3_6, nn_3_7, nn_3_8, nn_4_0, nn_4_1, nn_4_2, nn_4_3, nn_4_5, nn_4_6, nn_4_7, nn_4_8, nn_5_0, nn_5_1, nn_5_2, nn_5_3, nn_5_4, nn_5_6, nn_5_7, nn_5_8, nn_6_0, nn_6_1, nn_6_2, nn_6_3, nn_6_4, nn_6_5, nn_6_7, nn_6_8, nn_7_0, nn_7_1, nn_7_2, nn_7_3, nn_7_4, nn_7_5, nn_7_6, nn_7_8, nn_8_0, nn_8_1, nn_8_2, nn_8_3, nn_8_4, nn_8_5, nn_8_6, nn_8_7, nq_0, nq_1, nq_2, nq_3, nq_4, nq_5, nq_6, nq_7, nq_8, eq_self, if_true, if_false, m185_4 hT hX hL ht (show ltr 102 by decide) (show ltr 114 by decide) (show ltr 101 by decide) (show ltr 101 by decide), m185_6 hT hX hL ht (show ltr 110 by decide) (show ltr 101 by decide) (show ltr 101 by decide) (show ltr 100 by decide) (show ltr 101 by decide) (show ltr 100 by decide), bI_s, plc, e_187_47, e_187_82, e_187_117, e_187_163, e_187_187, e_187_211]
  by_cases g0 : wdW T t [102, 114, 101, 101]
  · rw [if_pos g0, if_neg (by decide), if_pos g0]
  rw [if_neg g0, if_pos nI_0, if_neg g0]
  by_cases g1 : wdW T t [110, 101, 101, 100, 101, 100]
  · rw [if_pos g1, if_neg (by decide), if_pos g1]
  rw [if_neg g1, if_pos nI_0, if_neg g1]
theorem m187_6 (hT : okT T n) (hX : TxM I T n) (hL : LxM I t) (ht : okK n t) : am_cal (d + 4) 187 [.ref 229, .int (nI 6)] (mS I J) = some (some (.int (plc T t ([[114, 101, 115, 116, 115], [98, 101, 97, 114, 115]]) 0)), mS I J) := by
  rw [c_187 lc_229]
  simp only [nn_0_1, nn_0_2, nn_0_3, nn_0_4, nn_0_5, nn_0_6, nn_0_7, nn_0_8, nn_1_0, nn_1_2, nn_1_3, nn_1_4, nn_1_5, nn_1_6, nn_1_7, nn_1_8, nn_2_0, nn_2_1, nn_2_3, nn_2_4, nn_2_5, nn_2_6, nn_2_7, nn_2_8, nn_3_0, nn_3_1, nn_3_2, nn_3_4, nn_3_5, nn_3_6, nn_3_7, nn_3_8, nn_4_0, nn_4_1, nn_4_2, nn_4_3, nn_4_5, nn_4_6, nn_4_7, nn_4_8, nn_5_0, nn_5_1, nn_5_2, nn_5_3, nn_5_4, nn_5_6, nn_5_7, nn_5_8, nn_6_0, nn_6_1, nn_6_2, nn_6_3, nn_6_4, nn_6_5, nn_6_7, nn_6_8, nn_7_0, nn_7_1, nn_7_2, nn_7_3, nn_7_4, nn_7_5, nn_7_6, nn_7_8, nn_8_0, nn_8_1, nn_8_2, nn_8_3, nn_8_4, nn_8_5, nn_8_6, nn_8_7, nq_0, nq_1, nq_2, nq_3, nq_4, nq_5, nq_6, nq_7, nq_8, eq_self, if_true, if_false, m185_5 hT hX hL ht (show ltr 114 by decide) (show ltr 101 by decide) (show ltr 115 by decide) (show ltr 116 by decide) (show ltr 115 by decide), m185_5 hT hX hL ht (show ltr 98 by decide) (show ltr 101 by decide) (show ltr 97 by decide) (show ltr 114 by decide) (show ltr 115 by decide), bI_s, plc, e_187_47, e_187_82, e_187_117, e_187_163, e_187_187, e_187_211]
  by_cases g0 : wdW T t [114, 101, 115, 116, 115]
  · rw [if_pos g0, if_neg (by decide), if_pos g0]
  rw [if_neg g0, if_pos nI_0, if_neg g0]
  by_cases g1 : wdW T t [98, 101, 97, 114, 115]
  · rw [if_pos g1, if_neg (by decide), if_pos g1]
  rw [if_neg g1, if_pos nI_0, if_neg g1]
theorem m187 (hT : okT T n) (hX : TxM I T n) (hL : LxM I t) (ht : okK n t) (hk : k ≤ 6) : am_cal (d + 4) 187 [.ref 229, .int (nI k)] (mS I J) = some (some (.int (plc T t (txW (vtx k)) 0)), mS I J) := by
  rcases (show k = 0 ∨ k = 1 ∨ k = 2 ∨ k = 3 ∨ k = 4 ∨ k = 5 ∨ k = 6 by omega) with rfl | rfl | rfl | rfl | rfl | rfl | rfl
  · exact m187_0 hT hX hL ht
  · exact m187_1 hT hX hL ht
  · exact m187_2 hT hX hL ht
  · exact m187_3 hT hX hL ht
  · exact m187_4 hT hX hL ht
  · exact m187_5 hT hX hL ht
  · exact m187_6 hT hX hL ht
theorem k10 (hk : k ≤ 6) : am_cal (d + 1) 10 [.int (nI k)] (mS I J) = some (some (.ref (4000000 + vtx k)), mS I J) := by
  rcases (show k = 0 ∨ k = 1 ∨ k = 2 ∨ k = 3 ∨ k = 4 ∨ k = 5 ∨ k = 6 by omega) with rfl | rfl | rfl | rfl | rfl | rfl | rfl
  · rw [c_10]
    simp only [nn_0_1, nn_0_2, nn_0_3, nn_0_4, nn_0_5, nn_0_6, nn_0_7, nn_0_8, nn_1_0, nn_1_2, nn_1_3, nn_1_4, nn_1_5, nn_1_6, nn_1_7, nn_1_8, nn_2_0, nn_2_1, nn_2_3, nn_2_4, nn_2_5, nn_2_6, nn_2_7, nn_2_8, nn_3_0, nn_3_1, nn_3_2, nn_3_4, nn_3_5, nn_3_6, nn_3_7, nn_3_8, nn_4_0, nn_4_1, nn_4_2, nn_4_3, nn_4_5, nn_4_6, nn_4_7, nn_4_8, nn_5_0, nn_5_1, nn_5_2, nn_5_3, nn_5_4, nn_5_6, nn_5_7, nn_5_8, nn_6_0, nn_6_1, nn_6_2, nn_6_3, nn_6_4, nn_6_5, nn_6_7, nn_6_8, nn_7_0, nn_7_1, nn_7_2, nn_7_3, nn_7_4, nn_7_5, nn_7_6, nn_7_8, nn_8_0, nn_8_1, nn_8_2, nn_8_3, nn_8_4, nn_8_5, nn_8_6, nn_8_7, nq_0, nq_1, nq_2, nq_3, nq_4, nq_5, nq_6, nq_7, nq_8, eq_self, if_true, if_false]
    rfl
  · rw [c_10]
    simp only [nn_0_1, nn_0_2, nn_0_3, nn_0_4, nn_0_5, nn_0_6, nn_0_7, nn_0_8, nn_1_0, nn_1_2, nn_1_3, nn_1_4, nn_1_5, nn_1_6, nn_1_7, nn_1_8, nn_2_0, nn_2_1, nn_2_3, nn_2_4, nn_2_5, nn_2_6, nn_2_7, nn_2_8, nn_3_0, nn_3_1, nn_3_2, nn_3_4, nn_3_5, nn_3_6, nn_3_7, nn_3_8, nn_4_0, nn_4_1, nn_4_2, nn_4_3, nn_4_5, nn_4_6, nn_4_7, nn_4_8, nn_5_0, nn_5_1, nn_5_2, nn_5_3, nn_5_4, nn_5_6, nn_5_7, nn_5_8, nn_6_0, nn_6_1, nn_6_2, nn_6_3, nn_6_4, nn_6_5, nn_6_7, nn_6_8, nn_7_0, nn_7_1, nn_7_2, nn_7_3, nn_7_4, nn_7_5, nn_7_6, nn_7_8, nn_8_0, nn_8_1, nn_8_2, nn_8_3, nn_8_4, nn_8_5, nn_8_6, nn_8_7, nq_0, nq_1, nq_2, nq_3, nq_4, nq_5, nq_6, nq_7, nq_8, eq_self, if_true, if_false]
    rfl
  · rw [c_10]
    simp only [nn_0_1, nn_0_2, nn_0_3, nn_0_4, nn_0_5, nn_0_6, nn_0_7, nn_0_8, nn_1_0, nn_1_2, nn_1_3, nn_1_4, nn_1_5, nn_1_6, nn_1_7, nn_1_8, nn_2_0, nn_2_1, nn_2_3, nn_2_4, nn_2_5, nn_2_6, nn_2_7, nn_2_8, nn_3_0, nn_3_1, nn_3_2, nn_3_4, nn_3_5, nn_3_6, nn_3_7, nn_3_8, nn_4_0, nn_4_1, nn_4_2, nn_4_3, nn_4_5, nn_4_6, nn_4_7, nn_4_8, nn_5_0, nn_5_1, nn_5_2, nn_5_3, nn_5_4, nn_5_6, nn_5_7, nn_5_8, nn_6_0, nn_6_1, nn_6_2, nn_6_3, nn_6_4, nn_6_5, nn_6_7, nn_6_8, nn_7_0, nn_7_1, nn_7_2, nn_7_3, nn_7_4, nn_7_5, nn_7_6, nn_7_8, nn_8_0, nn_8_1, nn_8_2, nn_8_3, nn_8_4, nn_8_5, nn_8_6, nn_8_7, nq_0, nq_1, nq_2, nq_3, nq_4, nq_5, nq_6, nq_7, nq_8, eq_self, if_true, if_false]
    rfl
  · rw [c_10]
    simp only [nn_0_1, nn_0_2, nn_0_3, nn_0_4, nn_0_5, nn_0_6, nn_0_7, nn_0_8, nn_1_0, nn_1_2, nn_1_3, nn_1_4, nn_1_5, nn_1_6, nn_1_7, nn_1_8, nn_2_0, nn_2_1, nn_2_3, nn_2_4, nn_2_5, nn_2_6, nn_2_7, nn_2_8, nn_3_0, nn_3_1, nn_3_2, nn_3_4, nn_3_5, nn_3_6, nn_3_7, nn_3_8, nn_4_0, nn_4_1, nn_4_2, nn_4_3, nn_4_5, nn_4_6, nn_4_7, nn_4_8, nn_5_0, nn_5_1, nn_5_2, nn_5_3, nn_5_4, nn_5_6, nn_5_7, nn_5_8, nn_6_0, nn_6_1, nn_6_2, nn_6_3, nn_6_4, nn_6_5, nn_6_7, nn_6_8, nn_7_0, nn_7_1, nn_7_2, nn_7_3, nn_7_4, nn_7_5, nn_7_6, nn_7_8, nn_8_0, nn_8_1, nn_8_2, nn_8_3, nn_8_4, nn_8_5, nn_8_6, nn_8_7, nq_0, nq_1, nq_2, nq_3, nq_4, nq_5, nq_6, nq_7, nq_8, eq_self, if_true, if_false]
    rfl
  · rw [c_10]
    simp only [nn_0_1, nn_0_2, nn_0_3, nn_0_4, nn_0_5, nn_0_6, nn_0_7, nn_0_8, nn_1_0, nn_1_2, nn_1_3, nn_1_4, nn_1_5, nn_1_6, nn_1_7, nn_1_8, nn_2_0, nn_2_1, nn_2_3, nn_2_4, nn_2_5, nn_2_6, nn_2_7, nn_2_8, nn_3_0, nn_3_1, nn_3_2, nn_3_4, nn_3_5, nn_3_6, nn_3_7, nn_3_8, nn_4_0, nn_4_1, nn_4_2, nn_4_3, nn_4_5, nn_4_6, nn_4_7, nn_4_8, nn_5_0, nn_5_1, nn_5_2, nn_5_3, nn_5_4, nn_5_6, nn_5_7, nn_5_8, nn_6_0, nn_6_1, nn_6_2, nn_6_3, nn_6_4, nn_6_5, nn_6_7, nn_6_8, nn_7_0, nn_7_1, nn_7_2, nn_7_3, nn_7_4, nn_7_5, nn_7_6, nn_7_8, nn_8_0, nn_8_1, nn_8_2, nn_8_3, nn_8_4, nn_8_5, nn_8_6, nn_8_7, nq_0, nq_1, nq_2, nq_3, nq_4, nq_5, nq_6, nq_7, nq_8, eq_self, if_true, if_false]
    rfl
  · rw [c_10]
    simp only [nn_0_1, nn_0_2, nn_0_3, nn_0_4, nn_0_5, nn_0_6, nn_0_7, nn_0_8, nn_1_0, nn_1_2, nn_1_3, nn_1_4, nn_1_5, nn_1_6, nn_1_7, nn_1_8, nn_2_0, nn_2_1, nn_2_3, nn_2_4, nn_2_5, nn_2_6, nn_2_7, nn_2_8, nn_3_0, nn_3_1, nn_3_2, nn_3_4, nn_3_5, nn_3_6, nn_3_7, nn_3_8, nn_4_0, nn_4_1, nn_4_2, nn_4_3, nn_4_5, nn_4_6, nn_4_7, nn_4_8, nn_5_0, nn_5_1, nn_5_2, nn_5_3, nn_5_4, nn_5_6, nn_5_7, nn_5_8, nn_6_0, nn_6_1, nn_6_2, nn_6_3, nn_6_4, nn_6_5, nn_6_7, nn_6_8, nn_7_0, nn_7_1, nn_7_2, nn_7_3, nn_7_4, nn_7_5, nn_7_6, nn_7_8, nn_8_0, nn_8_1, nn_8_2, nn_8_3, nn_8_4, nn_8_5, nn_8_6, nn_8_7, nq_0, nq_1, nq_2, nq_3, nq_4, nq_5, nq_6, nq_7, nq_8, eq_self, if_true, if_false]
    rfl
  · rw [c_10]
    simp only [nn_0_1, nn_0_2, nn_0_3, nn_0_4, nn_0_5, nn_0_6, nn_0_7, nn_0_8, nn_1_0, nn_1_2, nn_1_3, nn_1_4, nn_1_5, nn_1_6, nn_1_7, nn_1_8, nn_2_0, nn_2_1, nn_2_3, nn_2_4, nn_2_5, nn_2_6, nn_2_7, nn_2_8, nn_3_0, nn_3_1, nn_3_2, nn_3_4, nn_3_5, nn_3_6, nn_3_7, nn_3_8, nn_4_0, nn_4_1, nn_4_2, nn_4_3, nn_4_5, nn_4_6, nn_4_7, nn_4_8, nn_5_0, nn_5_1, nn_5_2, nn_5_3, nn_5_4, nn_5_6, nn_5_7, nn_5_8, nn_6_0, nn_6_1, nn_6_2, nn_6_3, nn_6_4, nn_6_5, nn_6_7, nn_6_8, nn_7_0, nn_7_1, nn_7_2, nn_7_3, nn_7_4, nn_7_5, nn_7_6, nn_7_8, nn_8_0, nn_8_1, nn_8_2, nn_8_3, nn_8_4, nn_8_5, nn_8_6, nn_8_7, nq_0, nq_1, nq_2, nq_3, nq_4, nq_5, nq_6, nq_7, nq_8, eq_self, if_true, if_false]
    rfl
end J5s
