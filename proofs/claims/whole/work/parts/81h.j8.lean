/-! ===== the reader of a COND: the class ===== -/
def CRes (T : Nat → Nat) (n : Nat) (I : mI) (J : mJ) (m : Nat) (all : List PO) (r : am_R) : PR → Prop
  | .inl p => ∃ I', FrC I' I m ∧ I' 199 3 = nI p ∧ r = some (some (.int (nI 0)), mS I' J)
  | .inr (t', o) => ∃ I', FrC I' I m ∧ LxC I' T n t' ∧ CdC I' m (all ++ o) ∧ r = some (some (.int (nI 1)), mS I' J)
abbrev CX (L : Nat) (xs : Nat → Int32) (T : Nat → Nat) (n : Nat) (I : mI) (m : Nat) (all : List PO) (t : Tok) : Prop := FX L xs I ∧ TxC I T n ∧ LxC I T n t ∧ okQ T n t ∧ CdC I m all ∧ all.length + 1 ≤ t.1
section J8s
variable {I I' : mI} {J : mJ} {d k n q p i c m a e b L j : Nat} {x y z u v : Int32} {T : Nat → Nat} {t t' : Tok} {w cs : List Nat} {xs : Nat → Int32} {all o o' : List PO}
theorem sg_t : ∀ b, b < 256 → (nI b - nI 60 < 0 ∨ nI 2 < nI b - nI 60) = (¬ (60 ≤ b ∧ b ≤ 62)) ∧ (60 ≤ b → nI b - nI 60 = nI (b - 60)) := by decide +kernel
theorem sgn (hT : okT T n) : (tkW T n t - nI 60 < 0 ∨ nI 2 < tkW T n t - nI 60) = ¬ (t.1 < n ∧ 60 ≤ T t.1 ∧ T t.1 ≤ 62) := by
  unfold tkW
  by_cases h1 : t.1 < n
  · rw [if_pos h1]
    have hb := hT.2 _ h1
    by_cases h2 : ltr (T t.1)
    · rw [if_pos h2]; exact propext ⟨fun _ h => by have := h.2; omega, fun _ => Or.inl (by decide)⟩
    · rw [if_neg h2]
      by_cases h3 : dgt (T t.1)
      · rw [if_pos h3]
        refine propext ⟨fun _ h => by have := h.2; omega, fun _ => ?_⟩
        split <;> exact Or.inl (by decide)
      · rw [if_neg h3, (sg_t _ hb).1]
        exact propext ⟨fun h hh => h hh.2, fun h hh => h ⟨h1, hh⟩⟩
  · rw [if_neg h1]; exact propext ⟨fun _ h => h1 h.1, fun _ => Or.inl (by decide)⟩
theorem sgv (hT : okT T n) (h : t.1 < n ∧ 60 ≤ T t.1 ∧ T t.1 ≤ 62) : tkW T n t - nI 60 = nI (T t.1 - 60) := by
  have hb := hT.2 _ h.1
  unfold tkW
  rw [if_pos h.1, if_neg (by omega), if_neg (by omega)]
  exact (sg_t _ hb).2 h.2.1
theorem CX.nx (hT : okT T n) (h : CX L xs T n I m all t) : ∃ I', FR I' I ∧ CX L xs T n I' m all (nx T n t) ∧ am_cal (d + 3) 27 [.ref 199] (mS I J) = some (none, mS I' J) := by
  obtain ⟨hF, hX, hL, ht, hC, hr⟩ := h
  obtain ⟨I', a1, a2, a3⟩ := k27 (d := d) (J := J) hT hX hL.1 hL.2.2.1 ht.1.2.1
  have := nx_le (T := T) ht.1
  have := ht.1.1
  exact ⟨I', a1, ⟨hF.fc (FrC.fr (m := m) a1), hX.fc (FrC.fr (m := m) a1), a2, nx_q ht.1, hC.fr a1, by omega⟩, a3⟩
theorem k25 (hT : okT T n) (hm : m < 10) (h : CX L xs T n I m all t) : CRes T n I J m all (am_cal (d + 4) 25 [.ref 199] (mS I J)) (cmpN T n t) := by
  have hn := hT.1
  have e0 : am_cal (d + 4) 25 [.ref 199] (mS I J) = _ := c_25 lc_199
  obtain ⟨hF, hX, hL, ht, hC, hr⟩ := id h
  rw [show d + 3 = d + 1 + 2 from rfl, k26 hF hT hX hL ht.1, bI_s] at e0
  unfold cmpN
  cases h1 : opd T n t with
  | none =>
    rw [h1, if_pos (show fI none < 0 by decide)] at e0
    exact ⟨I, FrC.rf, hL.2.1, e0⟩
  | some l =>
    have b1 := opd_b ht h1
    rw [h1, if_neg (show ¬ fI (some l) < 0 from nI_pos (show l < 2 ^ 31 by omega))] at e0
    obtain ⟨I1, a1, a2, a3⟩ := h.nx (d := d) (J := J) hT
    rw [show d + 1 + 2 = d + 3 from rfl, a3, bV_s] at e0
    obtain ⟨hF1, hX1, hL1, ht1, hC1, hr1⟩ := id a2
    simp only [lc_199, hL1.2.2.2.1, bq_s, mS_c, mS_l, mS_r, mS_i, mS_j, mS_pi, mS_pj, lt_st, bq_s, bV_s, bI_s, bJ_s, bA_s, nz_0, nc_0, nz_1, nc_1, nz_2, nc_2, nz_3, nc_3, nz_4, nc_4, nz_5, nc_5, nz_6, nc_6, nz_7, nc_7, nz_8, nc_8, nz_9, nc_9, nz_10, nc_10, nz_11, nc_11, nz_12, nc_12, if_true, if_false, eq_self, true_and, and_true, false_or, or_false, true_or, or_true, false_and, and_false, not_true, not_false_eq_true, ne_eq, ite_self, ite_not, ↓reduceIte, n_101, n_107, n_11] at e0
    show CRes T n I J m all _ (if (nx T n t).1 < n ∧ 60 ≤ T (nx T n t).1 ∧ T (nx T n t).1 ≤ 62 then _ else _)
    by_cases hs : (nx T n t).1 < n ∧ 60 ≤ T (nx T n t).1 ∧ T (nx T n t).1 ≤ 62
    · rw [if_pos hs]
      have hs' : ¬ (tkW T n (nx T n t) - nI 60 < 0 ∨ nI 2 < tkW T n (nx T n t) - nI 60) := by rw [sgn hT]; exact fun h => h hs
      rw [if_neg (fun h => hs' (Or.inl h)), if_neg (fun h => hs' (Or.inr h))] at e0
      obtain ⟨I2, b1', b2, b3⟩ := a2.nx (d := d) (J := J) hT
      rw [b3, bV_s] at e0
      obtain ⟨hF2, hX2, hL2, ht2, hC2, hr2⟩ := id b2
      rw [show d + 3 = d + 1 + 2 from rfl, k26 hF2 hT hX2 hL2 ht2.1, bI_s] at e0
      cases h2 : opd T n (nx T n (nx T n t)) with
      | none =>
        rw [h2, if_pos (show fI none < 0 by decide)] at e0
        exact ⟨I2, (FrC.fr b1').tr (FrC.fr a1), hL2.2.1, e0⟩
      | some r =>
        have bb2 := opd_b ht2 h2
        rw [h2, if_neg (show ¬ fI (some r) < 0 from nI_pos (show r < 2 ^ 31 by omega))] at e0
        obtain ⟨I3, c1, c2, c3⟩ := b2.nx (d := d) (J := J) hT
        rw [show d + 1 + 2 = d + 3 from rfl, c3, bV_s] at e0
        obtain ⟨hF3, hX3, hL3, ht3, hC3, hr3⟩ := id c2
        have := ht3.1.1
        have := ht3.1.2.1
        have ev : (((tkW T n (nx T n t) - nI 60) * nI 16384 + fI (some l)) * nI 16384 + fI (some r)) = eC (0, T (nx T n t).1 - 60, l, r) := by
          rw [sgv hT hs]
          show (nI (T (nx T n t).1 - 60) * nI 16384 + nI l) * nI 16384 + nI r = nI (((T (nx T n t).1 - 60) * 16384 + l) * 16384 + r)
          rw [pk_mul, nI_add, pk_mul, nI_add]
        obtain ⟨I4, d1, d0, d2, d3⟩ := k12 (d := d + 2) (J := J) (o := (0, T (nx T n t).1 - 60, l, r)) hC3 hm (by omega)
        simp only [lc_199, lr_199_0, ev, d3, bq_s, mS_c, mS_l, mS_r, mS_i, mS_j, mS_pi, mS_pj, lt_st, bq_s, bV_s, bI_s, bJ_s, bA_s, nz_0, nc_0, nz_1, nc_1, nz_2, nc_2, nz_3, nc_3, nz_4, nc_4, nz_5, nc_5, nz_6, nc_6, nz_7, nc_7, nz_8, nc_8, nz_9, nc_9, nz_10, nc_10, nz_11, nc_11, nz_12, nc_12, if_true, if_false, eq_self, true_and, and_true, false_or, or_false, true_or, or_true, false_and, and_false, not_true, not_false_eq_true, ne_eq, ite_self, ite_not, ↓reduceIte, n_101, n_107, n_11] at e0
        refine ⟨I4, d1.tr ((FrC.fr c1).tr ((FrC.fr b1').tr (FrC.fr a1))), ?_, d2, e0⟩
        unfold LxC
        rw [d0]
        exact hL3
    · rw [if_neg hs]
      have hs' : tkW T n (nx T n t) - nI 60 < 0 ∨ nI 2 < tkW T n (nx T n t) - nI 60 := by rw [sgn hT]; exact hs
      by_cases h0 : tkW T n (nx T n t) - nI 60 < 0
      · rw [if_pos h0] at e0
        exact ⟨I1, FrC.fr a1, hL1.2.1, e0⟩
      · have h2 : nI 2 < tkW T n (nx T n t) - nI 60 := by rcases hs' with h | h; exact absurd h h0; exact h
        rw [if_neg h0, if_pos h2] at e0
        exact ⟨I1, FrC.fr a1, hL1.2.1, e0⟩
theorem CX.fr (h : CX L xs T n I m all t) (hf : FrC I' I m) (hl : LxC I' T n t) (hc : CdC I' m all) : CX L xs T n I' m all t := ⟨h.1.fc hf, h.2.1.fc hf, hl, h.2.2.2.1, hc, h.2.2.2.2.2⟩
/-- the row of `not` -/
theorem e24n (hT : okT T n) : ∀ f i g t (I : mI), f + i = n → g ≤ 1 → CX L xs T n I m all t → ∃ I', FR I' I ∧ CX L xs T n I' m all (ntU T n f g t).2 ∧ am_X (am_cal (d + 3)) 24 4 [.ref 199, .int x, .int (nI g), .int (nI i)] [] (mS I J) = am_X (am_cal (d + 3)) 24 22 [.ref 199, .int x, .int (nI (ntU T n f g t).1), .null] [] (mS I' J) := by
  have hn := hT.1
  have hw : txW 10 = [[110, 111, 116]] := rfl
  intro f
  induction f with
  | zero =>
    intro i g t I hf hg h
    obtain ⟨hF, hX, hL, ht, hC, hr⟩ := id h
    refine ⟨I, fun _ _ => rfl, h, ?_⟩
    rw [e_24_4]
    simp only [lc_199, hL.1, n_lt (show i < 2 ^ 31 by omega) (show n < 2 ^ 31 by omega), eq_false (show ¬ i < n by omega), bq_s, mS_c, mS_l, mS_r, mS_i, mS_j, mS_pi, mS_pj, lt_st, bq_s, bV_s, bI_s, bJ_s, bA_s, nz_0, nc_0, nz_1, nc_1, nz_2, nc_2, nz_3, nc_3, nz_4, nc_4, nz_5, nc_5, nz_6, nc_6, nz_7, nc_7, nz_8, nc_8, nz_9, nc_9, nz_10, nc_10, nz_11, nc_11, nz_12, nc_12, if_true, if_false, eq_self, true_and, and_true, false_or, or_false, true_or, or_true, false_and, and_false, not_true, not_false_eq_true, ne_eq, ite_self, ite_not, ↓reduceIte, n_101, n_107, n_11]
    rfl
  | succ f ih =>
    intro i g t I hf hg h
    obtain ⟨hF, hX, hL, ht, hC, hr⟩ := id h
    have h29 := k29 (d := d + 1) (J := J) (i := 10) hF hT hX hL ht.1 (by decide) hw
    rw [show (4000000 + 10 : Nat) = 4000010 from rfl] at h29
    have e0 : am_X (am_cal (d + 3)) 24 4 [.ref 199, .int x, .int (nI g), .int (nI i)] [] (mS I J) = _ := e_24_4
    simp only [lc_199, hL.1, n_lt (show i < 2 ^ 31 by omega) (show n < 2 ^ 31 by omega), eq_true (show i < n by omega), h29, nI_add, bq_s, mS_c, mS_l, mS_r, mS_i, mS_j, mS_pi, mS_pj, lt_st, bq_s, bV_s, bI_s, bJ_s, bA_s, nz_0, nc_0, nz_1, nc_1, nz_2, nc_2, nz_3, nc_3, nz_4, nc_4, nz_5, nc_5, nz_6, nc_6, nz_7, nc_7, nz_8, nc_8, nz_9, nc_9, nz_10, nc_10, nz_11, nc_11, nz_12, nc_12, if_true, if_false, eq_self, true_and, and_true, false_or, or_false, true_or, or_true, false_and, and_false, not_true, not_false_eq_true, ne_eq, ite_self, ite_not, ↓reduceIte, n_101, n_107, n_11] at e0
    show ∃ I', FR I' I ∧ CX L xs T n I' m all (if wdW T t [110, 111, 116] then ntU T n f (1 - g) (nx T n t) else (g, t)).2 ∧ am_X (am_cal (d + 3)) 24 4 [.ref 199, .int x, .int (nI g), .int (nI i)] [] (mS I J) = am_X (am_cal (d + 3)) 24 22 [.ref 199, .int x, .int (nI (if wdW T t [110, 111, 116] then ntU T n f (1 - g) (nx T n t) else (g, t)).1), .null] [] (mS I' J)
    by_cases hh : wdW T t [110, 111, 116]
    · rw [if_pos hh, if_neg (by decide)] at e0
      rw [if_pos hh]
      obtain ⟨I1, a1, a2, a3⟩ := h.nx (d := d) (J := J) hT
      obtain ⟨I2, b1, b2, b3⟩ := ih (i + 1) (1 - g) (nx T n t) I1 (by omega) (by omega) a2
      refine ⟨I2, fun a ha => (b1 a ha).trans (a1 a ha), b2, ?_⟩
      rw [← b3, e0]
      rcases (show g = 0 ∨ g = 1 by omega) with rfl | rfl
      · rw [if_pos nI_0, a3, bV_s]
      · rw [if_neg (by decide), a3, bV_s]
    · rw [if_neg hh, if_pos nI_0] at e0
      rw [if_neg hh]
      exact ⟨I, fun _ _ => rfl, h, e0⟩
theorem tk_b (hT : okT T n) (hc : c = 40 ∨ c = 41 ∨ c = 59) : (tkW T n t = nI c) = (t.1 < n ∧ T t.1 = c) := by
  have hm : ∀ k : Int32, k < 0 → (k = nI c) = False := fun k hk => eq_false (fun h => by
    have h1 : ¬ nI c < 0 := nI_pos (by omega)
    rw [← h] at h1
    exact h1 hk)
  unfold tkW
  by_cases h1 : t.1 < n
  · rw [if_pos h1]
    have hb := hT.2 _ h1
    by_cases h2 : ltr (T t.1)
    · rw [if_pos h2, hm _ (by decide)]; exact propext ⟨fun h => h.elim, fun h => by have := h.2; omega⟩
    · rw [if_neg h2]
      by_cases h3 : dgt (T t.1)
      · rw [if_pos h3]
        have : ((if t.2 - t.1 ≤ 4 then Int32.ofInt (-3) else Int32.ofInt (-4)) = nI c) = False := by split <;> exact hm _ (by decide)
        rw [this]
        exact propext ⟨fun h => h.elim, fun h => by have := h.2; omega⟩
      · rw [if_neg h3, n_eq (by omega) (by omega)]
        exact propext ⟨fun h => ⟨h1, h⟩, fun h => h.2⟩
  · rw [if_neg h1, hm _ (by decide)]; exact propext ⟨fun h => h.elim, fun h => h1 h.1⟩
/-- `not` is written behind -/
theorem e24e (hT : okT T n) (hm : m < 10) {g : Nat} (hg : g ≤ 1) (h : CX L xs T n I m all t) (hb : all.length < 200) : ∃ I', FrC I' I m ∧ LxC I' T n t ∧ CdC I' m (all ++ ngO g) ∧ am_X (am_cal (d + 1)) 24 53 [.ref 199, .null, .int (nI g), .null] [] (mS I J) = some (some (.int (nI 1)), mS I' J) := by
  obtain ⟨hF, hX, hL, ht, hC, hr⟩ := h
  rcases (show g = 0 ∨ g = 1 by omega) with rfl | rfl
  · refine ⟨I, FrC.rf, hL, by show CdC I m (all ++ []); rw [List.append_nil]; exact hC, ?_⟩
    rw [e_24_53, if_pos nI_0]
  · obtain ⟨I1, a1, a0, a2, a3⟩ := k12 (d := d) (J := J) (o := (1, 0, 0, 0)) hC hm hb
    refine ⟨I1, a1, by unfold LxC; rw [a0]; exact hL, a2, ?_⟩
    have e : eC (1, 0, 0, 0) = Int32.ofInt (-1) := rfl
    rw [e] at a3
    rw [e_24_53, if_neg (by decide)]
    simp only [lc_199, lr_199_0, a3, bq_s, mS_c, mS_l, mS_r, mS_i, mS_j, mS_pi, mS_pj, lt_st, bq_s, bV_s, bI_s, bJ_s, bA_s, nz_0, nc_0, nz_1, nc_1, nz_2, nc_2, nz_3, nc_3, nz_4, nc_4, nz_5, nc_5, nz_6, nc_6, nz_7, nc_7, nz_8, nc_8, nz_9, nc_9, nz_10, nc_10, nz_11, nc_11, nz_12, nc_12, if_true, if_false, eq_self, true_and, and_true, false_or, or_false, true_or, or_true, false_and, and_false, not_true, not_false_eq_true, ne_eq, ite_self, ite_not, ↓reduceIte, n_101, n_107, n_11]
/-- one -/
theorem k24 (hT : okT T n) (hm : m < 10) {cc : Nat} (hk : k ≤ 3) (hA : ∀ A, subK T n k = some A → ∀ (I : mI) (d m : Nat) (all : List PO) (t : Tok), m < 10 → CX L xs T n I m all t → CRes T n I J m all (am_cal (d + cc) 22 [.ref 199, .int (nI (3 - k + 1))] (mS I J)) (A t)) (hA2 : ∀ A, subK T n k = some A → ∃ b, okR2 T n b A) (h : CX L xs T n I m all t) : CRes T n I J m all (am_cal (d + cc + 5) 24 [.ref 199, .int (nI (3 - k))] (mS I J)) (oneG T n (subK T n k) t) := by
  have hn := hT.1
  obtain ⟨I1, a1, a2, a3⟩ := e24n (d := d + cc + 1) (J := J) (x := nI (3 - k)) hT n 0 0 t I (by omega) (by decide) h
  obtain ⟨n1, n2, n3, n4⟩ := nt_ok (T := T) n 0 t h.2.2.2.1 (by decide)
  have e0 : am_cal (d + cc + 5) 24 [.ref 199, .int (nI (3 - k))] (mS I J) = _ := c_24 lc_199
  rw [show d + cc + 4 = d + cc + 1 + 3 from rfl, a3] at e0
  unfold oneG
  generalize hr : ntU T n n 0 t = r at *
  obtain ⟨g, t1⟩ := r
  simp only at a2 n1 n2 e0
  dsimp only
  obtain ⟨hF, hX, hL, ht, hC, hrm⟩ := id a2
  have h1n := ht.1.2.1
  have h1l := ht.1.1
  rw [e_24_22] at e0
  simp only [lc_199, hL.2.2.2.1, tk_b hT (Or.inl rfl : (40 : Nat) = 40 ∨ _), bq_s, mS_c, mS_l, mS_r, mS_i, mS_j, mS_pi, mS_pj, lt_st, bq_s, bV_s, bI_s, bJ_s, bA_s, nz_0, nc_0, nz_1, nc_1, nz_2, nc_2, nz_3, nc_3, nz_4, nc_4, nz_5, nc_5, nz_6, nc_6, nz_7, nc_7, nz_8, nc_8, nz_9, nc_9, nz_10, nc_10, nz_11, nc_11, nz_12, nc_12, if_true, if_false, eq_self, true_and, and_true, false_or, or_false, true_or, or_true, false_and, and_false, not_true, not_false_eq_true, ne_eq, ite_self, ite_not, ↓reduceIte, n_101, n_107, n_11] at e0
  by_cases h40 : t1.1 < n ∧ T t1.1 = 40
  · rw [if_pos h40] at e0
    rw [if_pos h40]
    cases hsub : subK T n k with
    | none =>
      have k0 : k = 0 := by cases k with | zero => rfl | succ k => cases hsub
      subst k0
      rw [if_neg (show ¬ nI (3 - 0) < nI 3 by decide)] at e0
      exact ⟨I1, FrC.fr a1, hL.2.1, e0⟩
    | some A =>
      have k1 : 1 ≤ k := by cases k with | zero => cases hsub | succ k => omega
      rw [if_pos (show nI (3 - k) < nI 3 by rw [n_lt (by omega) (by decide)]; omega)] at e0
      obtain ⟨I2, b1, b2, b3⟩ := a2.nx (d := d + cc + 1) (J := J) hT
      rw [b3, bV_s, nI_add] at e0
      have hAt := hA A hsub I2 (d + 4) m all (nx T n t1) hm b2
      rw [show d + 4 + cc = d + cc + 1 + 3 by omega] at hAt
      obtain ⟨bb, hok⟩ := hA2 A hsub
      have hgr := hok (nx T n t1) b2.2.2.2.1
      have q1 := nx_le (T := T) ht.1
      show CRes T n I J m all _ (match A (nx T n t1) with | .inl p => .inl p | .inr (t2, o) => if t2.1 < n ∧ T t2.1 = 41 then .inr (nx T n t2, o ++ ngO g) else .inl t2.1)
      cases hc : A (nx T n t1) with
      | inl p =>
        rw [hc] at hAt
        obtain ⟨I3, c1, c2, c3⟩ := hAt
        rw [c3, bI_s, if_pos nI_0] at e0
        exact ⟨I3, c1.tr ((FrC.fr b1).tr (FrC.fr a1)), c2, e0⟩
      | inr r =>
        obtain ⟨t2, o⟩ := r
        rw [hc] at hAt hgr
        obtain ⟨I3, c1, c2, c3, c4⟩ := hAt
        obtain ⟨g1, g2, g3⟩ := hgr
        have hlen := eMs_len o
        have g4 := g1.1.2.1
        have g5 := g1.1.1
        have l0 := ht.1.2.2 h40.1
        rw [c4, bI_s, if_neg (by decide)] at e0
        have hCX3 : CX L xs T n I3 m (all ++ o) t2 := ⟨b2.1.fc c1, b2.2.1.fc c1, c2, g1, c3, by rw [List.length_append]; omega⟩
        simp only [lc_199, c2.2.2.2.1, tk_b hT (Or.inr (Or.inl rfl) : (41 : Nat) = 40 ∨ 41 = 41 ∨ _), bq_s, mS_c, mS_l, mS_r, mS_i, mS_j, mS_pi, mS_pj, lt_st, bq_s, bV_s, bI_s, bJ_s, bA_s, nz_0, nc_0, nz_1, nc_1, nz_2, nc_2, nz_3, nc_3, nz_4, nc_4, nz_5, nc_5, nz_6, nc_6, nz_7, nc_7, nz_8, nc_8, nz_9, nc_9, nz_10, nc_10, nz_11, nc_11, nz_12, nc_12, if_true, if_false, eq_self, true_and, and_true, false_or, or_false, true_or, or_true, false_and, and_false, not_true, not_false_eq_true, ne_eq, ite_self, ite_not, ↓reduceIte, n_101, n_107, n_11] at e0
        show CRes T n I J m all _ (if t2.1 < n ∧ T t2.1 = 41 then .inr (nx T n t2, o ++ ngO g) else .inl t2.1)
        by_cases h41 : t2.1 < n ∧ T t2.1 = 41
        · rw [if_pos h41] at e0
          rw [if_pos h41]
          obtain ⟨I4, d1, d2, d3⟩ := hCX3.nx (d := d + cc + 1) (J := J) hT
          rw [d3, bV_s] at e0
          have q3 := nx_le (T := T) g1.1
          obtain ⟨I5, f1, f2, f3, f4⟩ := e24e (d := d + cc + 3) (J := J) hT hm n2 d2 (by rw [List.length_append]; omega)
          rw [show d + cc + 1 + 3 = d + cc + 3 + 1 from rfl, f4] at e0
          rw [List.append_assoc] at f3
          exact ⟨I5, f1.tr ((FrC.fr d1).tr (c1.tr ((FrC.fr b1).tr (FrC.fr a1)))), f2, f3, e0⟩
        · rw [if_neg h41] at e0
          rw [if_neg h41]
          exact ⟨I3, c1.tr ((FrC.fr b1).tr (FrC.fr a1)), c2.2.1, e0⟩
  · rw [if_neg h40] at e0
    rw [if_neg h40]
    have hc25 := k25 (d := d + cc) (J := J) hT hm a2
    have hgr := cmp_ok t1 n1
    cases hc : cmpN T n t1 with
    | inl p =>
      rw [hc] at hc25
      obtain ⟨I3, c1, c2, c3⟩ := hc25
      rw [show d + cc + 1 + 3 = d + cc + 4 from rfl, c3, bI_s, if_pos nI_0] at e0
      exact ⟨I3, c1.tr (FrC.fr a1), c2, e0⟩
    | inr r =>
      obtain ⟨t2, o⟩ := r
      rw [hc] at hc25 hgr
      obtain ⟨I3, c1, c2, c3, c4⟩ := hc25
      obtain ⟨g1, g2, g3⟩ := hgr
      have hlen := eMs_len o
      have g4 := g1.1.2.1
      have g5 := g1.1.1
      rw [show d + cc + 1 + 3 = d + cc + 4 from rfl, c4, bI_s, if_neg (by decide)] at e0
      have hCX3 : CX L xs T n I3 m (all ++ o) t2 := ⟨a2.1.fc c1, a2.2.1.fc c1, c2, g1, c3, by rw [List.length_append]; omega⟩
      obtain ⟨I5, f1, f2, f3, f4⟩ := e24e (d := d + cc + 3) (J := J) hT hm n2 hCX3 (by rw [List.length_append]; omega)
      rw [show d + cc + 4 = d + cc + 3 + 1 from rfl, f4] at e0
      rw [List.append_assoc] at f3
      exact ⟨I5, f1.tr (c1.tr (FrC.fr a1)), f2, f3, e0⟩

/-- method 23 -/
theorem e23l (hT : okT T n) (hm : m < 10) {P : Tok → PR} {b : Nat} (hP2 : okR2 T n b P) (hP : ∀ (I : mI) (all : List PO) (t : Tok), CX L xs T n I m all t → CRes T n I J m all (am_cal (d + 3) 24 [.ref 199, .int x] (mS I J)) (P t)) : ∀ f i t o (I1 : mI), f + i = n → FrC I1 I m → CX L xs T n I1 m (all ++ o) t → CRes T n I J m all (am_X (am_cal (d + 3)) 23 8 [.ref 199, .int x, .int (nI i)] [] (mS I1 J)) (lpU T n [97, 110, 100] (2, 0, 0, 0) P f t o) := by
  have hn := hT.1
  have hw : txW 9 = [[97, 110, 100]] := rfl
  intro f
  induction f with
  | zero =>
    intro i t o I1 hf hfr h
    obtain ⟨hF, hX, hL, ht, hC, hr⟩ := id h
    refine ⟨I1, hfr, hL, hC, ?_⟩
    rw [e_23_8]
    simp only [lc_199, hL.1, n_lt (show i < 2 ^ 31 by omega) (show n < 2 ^ 31 by omega), eq_false (show ¬ i < n by omega), bq_s, mS_c, mS_l, mS_r, mS_i, mS_j, mS_pi, mS_pj, lt_st, bq_s, bV_s, bI_s, bJ_s, bA_s, nz_0, nc_0, nz_1, nc_1, nz_2, nc_2, nz_3, nc_3, nz_4, nc_4, nz_5, nc_5, nz_6, nc_6, nz_7, nc_7, nz_8, nc_8, nz_9, nc_9, nz_10, nc_10, nz_11, nc_11, nz_12, nc_12, if_true, if_false, eq_self, true_and, and_true, false_or, or_false, true_or, or_true, false_and, and_false, not_true, not_false_eq_true, ne_eq, ite_self, ite_not, ↓reduceIte, n_101, n_107, n_11]
  | succ f ih =>
    intro i t o I1 hf hfr h
    obtain ⟨hF, hX, hL, ht, hC, hr⟩ := id h
    have h29 := k29 (d := d + 1) (J := J) (i := 9) hF hT hX hL ht.1 (by decide) hw
    rw [show (4000000 + 9 : Nat) = 4000009 from rfl] at h29
    have e0 : am_X (am_cal (d + 3)) 23 8 [.ref 199, .int x, .int (nI i)] [] (mS I1 J) = _ := e_23_8
    simp only [lc_199, hL.1, n_lt (show i < 2 ^ 31 by omega) (show n < 2 ^ 31 by omega), eq_true (show i < n by omega), h29, nI_add, bq_s, mS_c, mS_l, mS_r, mS_i, mS_j, mS_pi, mS_pj, lt_st, bq_s, bV_s, bI_s, bJ_s, bA_s, nz_0, nc_0, nz_1, nc_1, nz_2, nc_2, nz_3, nc_3, nz_4, nc_4, nz_5, nc_5, nz_6, nc_6, nz_7, nc_7, nz_8, nc_8, nz_9, nc_9, nz_10, nc_10, nz_11, nc_11, nz_12, nc_12, if_true, if_false, eq_self, true_and, and_true, false_or, or_false, true_or, or_true, false_and, and_false, not_true, not_false_eq_true, ne_eq, ite_self, ite_not, ↓reduceIte, n_101, n_107, n_11] at e0
    show CRes T n I J m all _ (if wdW T t [97, 110, 100] then (match P (nx T n t) with | .inl p => .inl p | .inr (t', o') => lpU T n [97, 110, 100] (2, 0, 0, 0) P f t' (o ++ (o' ++ [(2, 0, 0, 0)]))) else .inr (t, o))
    by_cases hh : wdW T t [97, 110, 100]
    · rw [if_pos hh, if_neg (by decide)] at e0
      rw [if_pos hh]
      obtain ⟨I2, a1, a2, a3⟩ := h.nx (d := d) (J := J) hT
      rw [a3, bV_s] at e0
      have hPt := hP I2 _ _ a2
      have hgr := hP2 (nx T n t) a2.2.2.2.1
      have q1 := nx_le (T := T) ht.1
      have q2 := wd_len ht.1 hh
      have q3 : ([97, 110, 100] : List Nat).length = 3 := rfl
      cases hc : P (nx T n t) with
      | inl p =>
        rw [hc] at hPt
        obtain ⟨I3, c1, c2, c3⟩ := hPt
        rw [c3, bI_s, if_pos nI_0] at e0
        exact ⟨I3, c1.tr ((FrC.fr a1).tr hfr), c2, e0⟩
      | inr r =>
        obtain ⟨t2, o2⟩ := r
        rw [hc] at hPt hgr
        obtain ⟨I3, c1, c2, c3, c4⟩ := hPt
        obtain ⟨g1, g2, g3⟩ := hgr
        have hlen := eMs_len o2
        have g4 := g1.1.2.1
        have g5 := g1.1.1
        have hl0 : (all ++ o).length + o2.length + 2 ≤ t2.1 := by omega
        obtain ⟨I4, d1, d0, d2, d3⟩ := k12 (d := d + 2) (J := J) (o := (2, 0, 0, 0)) c3 hm (by rw [List.length_append]; omega)
        have ee : eC (2, 0, 0, 0) = Int32.ofInt (-2) := rfl
        rw [ee] at d3
        rw [c4, bI_s, if_neg (by decide)] at e0
        simp only [lc_199, lr_199_0, d3, bq_s, mS_c, mS_l, mS_r, mS_i, mS_j, mS_pi, mS_pj, lt_st, bq_s, bV_s, bI_s, bJ_s, bA_s, nz_0, nc_0, nz_1, nc_1, nz_2, nc_2, nz_3, nc_3, nz_4, nc_4, nz_5, nc_5, nz_6, nc_6, nz_7, nc_7, nz_8, nc_8, nz_9, nc_9, nz_10, nc_10, nz_11, nc_11, nz_12, nc_12, if_true, if_false, eq_self, true_and, and_true, false_or, or_false, true_or, or_true, false_and, and_false, not_true, not_false_eq_true, ne_eq, ite_self, ite_not, ↓reduceIte, n_101, n_107, n_11] at e0
        have eq1 : (all ++ o ++ o2) ++ [((2, 0, 0, 0) : PO)] = all ++ (o ++ (o2 ++ [(2, 0, 0, 0)])) := by simp only [List.append_assoc]
        rw [eq1] at d2
        have hfr4 : FrC I4 I m := d1.tr (c1.tr ((FrC.fr a1).tr hfr))
        have hCX4 : CX L xs T n I4 m (all ++ (o ++ (o2 ++ [(2, 0, 0, 0)]))) t2 := ⟨(a2.1.fc c1).fc d1, (a2.2.1.fc c1).fc d1, by unfold LxC; rw [d0]; exact c2, g1, d2, by rw [← eq1, List.length_append, List.length_append]; show (all ++ o).length + o2.length + 1 + 1 ≤ t2.1; omega⟩
        have := ih (i + 1) t2 _ I4 (by omega) hfr4 hCX4
        rw [← e0] at this
        exact this
    · rw [if_neg hh, if_pos nI_0] at e0
      rw [if_neg hh]
      exact ⟨I1, hfr, hL, hC, e0⟩
theorem k23 (hT : okT T n) (hm : m < 10) {sub : Option (Tok → PR)} {b : Nat} (hP2 : okR2 T n b (oneG T n sub)) (hP : ∀ (I : mI) (all : List PO) (t : Tok), CX L xs T n I m all t → CRes T n I J m all (am_cal (d + 3) 24 [.ref 199, .int x] (mS I J)) (oneG T n sub t)) (h : CX L xs T n I m all t) : CRes T n I J m all (am_cal (d + 4) 23 [.ref 199, .int x] (mS I J)) (allG T n sub t) := by
  have hn := hT.1
  have e0 : am_cal (d + 4) 23 [.ref 199, .int x] (mS I J) = _ := c_23 lc_199
  have hPt := hP I all t h
  have hgr := hP2 t h.2.2.2.1
  unfold allG
  cases hc : oneG T n sub t with
  | inl p =>
    rw [hc] at hPt
    obtain ⟨I3, c1, c2, c3⟩ := hPt
    rw [c3, bI_s, if_pos nI_0] at e0
    exact ⟨I3, c1, c2, e0⟩
  | inr r =>
    obtain ⟨t2, o2⟩ := r
    rw [hc] at hPt hgr
    obtain ⟨I3, c1, c2, c3, c4⟩ := hPt
    obtain ⟨g1, g2, g3⟩ := hgr
    have hlen := eMs_len o2
    have hr := h.2.2.2.2.2
    rw [c4, bI_s, if_neg (by decide)] at e0
    have hCX3 : CX L xs T n I3 m (all ++ o2) t2 := ⟨h.1.fc c1, h.2.1.fc c1, c2, g1, c3, by rw [List.length_append]; omega⟩
    have := e23l hT hm hP2 hP n 0 t2 o2 I3 (by omega) c1 hCX3
    rw [← e0] at this
    exact this

/-- method 22 -/
theorem e22l (hT : okT T n) (hm : m < 10) {P : Tok → PR} {b : Nat} (hP2 : okR2 T n b P) (hP : ∀ (I : mI) (all : List PO) (t : Tok), CX L xs T n I m all t → CRes T n I J m all (am_cal (d + 3) 23 [.ref 199, .int x] (mS I J)) (P t)) : ∀ f i t o (I1 : mI), f + i = n → FrC I1 I m → CX L xs T n I1 m (all ++ o) t → CRes T n I J m all (am_X (am_cal (d + 3)) 22 8 [.ref 199, .int x, .int (nI i)] [] (mS I1 J)) (lpU T n [111, 114] (3, 0, 0, 0) P f t o) := by
  have hn := hT.1
  have hw : txW 8 = [[111, 114]] := rfl
  intro f
  induction f with
  | zero =>
    intro i t o I1 hf hfr h
    obtain ⟨hF, hX, hL, ht, hC, hr⟩ := id h
    refine ⟨I1, hfr, hL, hC, ?_⟩
    rw [e_22_8]
    simp only [lc_199, hL.1, n_lt (show i < 2 ^ 31 by omega) (show n < 2 ^ 31 by omega), eq_false (show ¬ i < n by omega), bq_s, mS_c, mS_l, mS_r, mS_i, mS_j, mS_pi, mS_pj, lt_st, bq_s, bV_s, bI_s, bJ_s, bA_s, nz_0, nc_0, nz_1, nc_1, nz_2, nc_2, nz_3, nc_3, nz_4, nc_4, nz_5, nc_5, nz_6, nc_6, nz_7, nc_7, nz_8, nc_8, nz_9, nc_9, nz_10, nc_10, nz_11, nc_11, nz_12, nc_12, if_true, if_false, eq_self, true_and, and_true, false_or, or_false, true_or, or_true, false_and, and_false, not_true, not_false_eq_true, ne_eq, ite_self, ite_not, ↓reduceIte, n_101, n_107, n_11]
  | succ f ih =>
    intro i t o I1 hf hfr h
    obtain ⟨hF, hX, hL, ht, hC, hr⟩ := id h
    have h29 := k29 (d := d + 1) (J := J) (i := 8) hF hT hX hL ht.1 (by decide) hw
    rw [show (4000000 + 8 : Nat) = 4000008 from rfl] at h29
    have e0 : am_X (am_cal (d + 3)) 22 8 [.ref 199, .int x, .int (nI i)] [] (mS I1 J) = _ := e_22_8
    simp only [lc_199, hL.1, n_lt (show i < 2 ^ 31 by omega) (show n < 2 ^ 31 by omega), eq_true (show i < n by omega), h29, nI_add, bq_s, mS_c, mS_l, mS_r, mS_i, mS_j, mS_pi, mS_pj, lt_st, bq_s, bV_s, bI_s, bJ_s, bA_s, nz_0, nc_0, nz_1, nc_1, nz_2, nc_2, nz_3, nc_3, nz_4, nc_4, nz_5, nc_5, nz_6, nc_6, nz_7, nc_7, nz_8, nc_8, nz_9, nc_9, nz_10, nc_10, nz_11, nc_11, nz_12, nc_12, if_true, if_false, eq_self, true_and, and_true, false_or, or_false, true_or, or_true, false_and, and_false, not_true, not_false_eq_true, ne_eq, ite_self, ite_not, ↓reduceIte, n_101, n_107, n_11] at e0
    show CRes T n I J m all _ (if wdW T t [111, 114] then (match P (nx T n t) with | .inl p => .inl p | .inr (t', o') => lpU T n [111, 114] (3, 0, 0, 0) P f t' (o ++ (o' ++ [(3, 0, 0, 0)]))) else .inr (t, o))
    by_cases hh : wdW T t [111, 114]
    · rw [if_pos hh, if_neg (by decide)] at e0
      rw [if_pos hh]
      obtain ⟨I2, a1, a2, a3⟩ := h.nx (d := d) (J := J) hT
      rw [a3, bV_s] at e0
      have hPt := hP I2 _ _ a2
      have hgr := hP2 (nx T n t) a2.2.2.2.1
      have q1 := nx_le (T := T) ht.1
      have q2 := wd_len ht.1 hh
      have q3 : ([111, 114] : List Nat).length = 2 := rfl
      cases hc : P (nx T n t) with
      | inl p =>
        rw [hc] at hPt
        obtain ⟨I3, c1, c2, c3⟩ := hPt
        rw [c3, bI_s, if_pos nI_0] at e0
        exact ⟨I3, c1.tr ((FrC.fr a1).tr hfr), c2, e0⟩
      | inr r =>
        obtain ⟨t2, o2⟩ := r
        rw [hc] at hPt hgr
        obtain ⟨I3, c1, c2, c3, c4⟩ := hPt
        obtain ⟨g1, g2, g3⟩ := hgr
        have hlen := eMs_len o2
        have g4 := g1.1.2.1
        have g5 := g1.1.1
        have hl0 : (all ++ o).length + o2.length + 2 ≤ t2.1 := by omega
        obtain ⟨I4, d1, d0, d2, d3⟩ := k12 (d := d + 2) (J := J) (o := (3, 0, 0, 0)) c3 hm (by rw [List.length_append]; omega)
        have ee : eC (3, 0, 0, 0) = Int32.ofInt (-3) := rfl
        rw [ee] at d3
        rw [c4, bI_s, if_neg (by decide)] at e0
        simp only [lc_199, lr_199_0, d3, bq_s, mS_c, mS_l, mS_r, mS_i, mS_j, mS_pi, mS_pj, lt_st, bq_s, bV_s, bI_s, bJ_s, bA_s, nz_0, nc_0, nz_1, nc_1, nz_2, nc_2, nz_3, nc_3, nz_4, nc_4, nz_5, nc_5, nz_6, nc_6, nz_7, nc_7, nz_8, nc_8, nz_9, nc_9, nz_10, nc_10, nz_11, nc_11, nz_12, nc_12, if_true, if_false, eq_self, true_and, and_true, false_or, or_false, true_or, or_true, false_and, and_false, not_true, not_false_eq_true, ne_eq, ite_self, ite_not, ↓reduceIte, n_101, n_107, n_11] at e0
        have eq1 : (all ++ o ++ o2) ++ [((3, 0, 0, 0) : PO)] = all ++ (o ++ (o2 ++ [(3, 0, 0, 0)])) := by simp only [List.append_assoc]
        rw [eq1] at d2
        have hfr4 : FrC I4 I m := d1.tr (c1.tr ((FrC.fr a1).tr hfr))
        have hCX4 : CX L xs T n I4 m (all ++ (o ++ (o2 ++ [(3, 0, 0, 0)]))) t2 := ⟨(a2.1.fc c1).fc d1, (a2.2.1.fc c1).fc d1, by unfold LxC; rw [d0]; exact c2, g1, d2, by rw [← eq1, List.length_append, List.length_append]; show (all ++ o).length + o2.length + 1 + 1 ≤ t2.1; omega⟩
        have := ih (i + 1) t2 _ I4 (by omega) hfr4 hCX4
        rw [← e0] at this
        exact this
    · rw [if_neg hh, if_pos nI_0] at e0
      rw [if_neg hh]
      exact ⟨I1, hfr, hL, hC, e0⟩
theorem k22 (hT : okT T n) (hm : m < 10) {sub : Option (Tok → PR)} {b : Nat} (hP2 : okR2 T n b (allG T n sub)) (hP : ∀ (I : mI) (all : List PO) (t : Tok), CX L xs T n I m all t → CRes T n I J m all (am_cal (d + 3) 23 [.ref 199, .int x] (mS I J)) (allG T n sub t)) (h : CX L xs T n I m all t) : CRes T n I J m all (am_cal (d + 4) 22 [.ref 199, .int x] (mS I J)) (anyG T n sub t) := by
  have hn := hT.1
  have e0 : am_cal (d + 4) 22 [.ref 199, .int x] (mS I J) = _ := c_22 lc_199
  have hPt := hP I all t h
  have hgr := hP2 t h.2.2.2.1
  unfold anyG
  cases hc : allG T n sub t with
  | inl p =>
    rw [hc] at hPt
    obtain ⟨I3, c1, c2, c3⟩ := hPt
    rw [c3, bI_s, if_pos nI_0] at e0
    exact ⟨I3, c1, c2, e0⟩
  | inr r =>
    obtain ⟨t2, o2⟩ := r
    rw [hc] at hPt hgr
    obtain ⟨I3, c1, c2, c3, c4⟩ := hPt
    obtain ⟨g1, g2, g3⟩ := hgr
    have hlen := eMs_len o2
    have hr := h.2.2.2.2.2
    rw [c4, bI_s, if_neg (by decide)] at e0
    have hCX3 : CX L xs T n I3 m (all ++ o2) t2 := ⟨h.1.fc c1, h.2.1.fc c1, c2, g1, c3, by rw [List.length_append]; omega⟩
    have := e22l hT hm hP2 hP n 0 t2 o2 I3 (by omega) c1 hCX3
    rw [← e0] at this
    exact this

theorem k22k (hT : okT T n) : ∀ k, k ≤ 3 → ∀ (I : mI) (d m : Nat) (all : List PO) (t : Tok), m < 10 → CX L xs T n I m all t → CRes T n I J m all (am_cal (d + (7 * (k + 1))) 22 [.ref 199, .int (nI (3 - k))] (mS I J)) (anyG T n (subK T n k) t) := by
  intro k
  induction k with
  | zero =>
    intro hk I d m all t hm h
    obtain ⟨o1, o2, o3⟩ := sub_ok (T := T) (n := n) 0
    have := k22 (d := d + 3) (J := J) (x := nI (3 - 0)) hT hm o2 (fun I all t h => k23 (d := d + 2) (J := J) hT hm o1 (fun I all t h => k24 (d := d) (cc := 0) (J := J) hT hm (by decide) (fun A hA => by cases hA) (fun A hA => by cases hA) h) h) h
    exact this
  | succ k ih =>
    intro hk I d m all t hm h
    obtain ⟨p1, p2, p3⟩ := sub_ok (T := T) (n := n) k
    obtain ⟨o1, o2, o3⟩ := sub_ok (T := T) (n := n) (k + 1)
    have h24 : ∀ (I : mI) (all : List PO) (t : Tok), CX L xs T n I m all t → CRes T n I J m all (am_cal (d + 7 * (k + 1) + 5) 24 [.ref 199, .int (nI (3 - (k + 1)))] (mS I J)) (oneG T n (subK T n (k + 1)) t) := fun I all t h => k24 (d := d) (cc := 7 * (k + 1)) (J := J) hT hm hk (fun A hA I d m all t hm h => by
      cases hA
      have := ih (by omega) I d m all t hm h
      rw [show 3 - (k + 1) + 1 = 3 - k by omega]
      exact this) (fun A hA => by cases hA; exact ⟨_, p3⟩) h
    have := k22 (d := d + 7 * (k + 1) + 3) (J := J) (x := nI (3 - (k + 1))) hT hm o2 (fun I all t h => k23 (d := d + 7 * (k + 1) + 2) (J := J) hT hm o1 h24 h) h
    rw [show d + 7 * (k + 1 + 1) = d + 7 * (k + 1) + 3 + 4 by omega]
    exact this
end J8s
