/-! ===== sheets: sheet, put, item ===== -/
def upA {α : Type} (f : Nat → α) (q : Nat) (v : α) : Nat → α := fun x => if x = q then v else f x
theorem upA_eq {α : Type} {f : Nat → α} {q : Nat} {v : α} : upA f q v q = v := if_pos rfl
theorem upA_ne {α : Type} {f : Nat → α} {q p : Nat} {v : α} (h : p ≠ q) : upA f q v p = f p := if_neg h
def ShC (I : mI) (S : Nat → Int32) (Z : Nat → Nat) (T : Nat → Nat → Int32) : Prop := ∀ q, q < 4 → I 225 q = S q ∧ (¬ S q = (Int32.ofInt (-1)) → I 226 q = nI (Z q) ∧ ∀ k, k < Z q → I (221 + q) k = T q k)
def ShM (I : mI) (S : Nat → Int32) (Z : Nat → Nat) (T : Nat → Nat → Int32) : Prop := ∀ q, q < 4 → I 242 q = S q ∧ (¬ S q = (Int32.ofInt (-1)) → I 243 q = nI (Z q) ∧ ∀ k, k < Z q → I 244 (40 * q + k) = T q k)
def wfS (S : Nat → Int32) (Z : Nat → Nat) : Prop := ∀ q, q < 4 → (S q = (Int32.ofInt (-1)) ∨ ∃ t, t ≤ 4 ∧ S q = nI t) ∧ Z q ≤ 40
abbrev FS (I' I : mI) : Prop := ∀ a, a < 221 ∨ 226 < a → I' a = I a
abbrev FSM (I' I : mI) : Prop := ∀ a, a ≠ 242 → a ≠ 243 → a ≠ 244 → I' a = I a
abbrev okSt (x y z : Int32) : Prop := isSh x ∧ (¬ y < (Int32.ofInt (-1)) ∧ ¬ nI 4 < y) ∧ (y = (Int32.ofInt (-1)) ∨ (¬ nI 40 < z ∧ ¬ z < 0))
def v_sheet (x y z : Int32) : Int32 := if isSh x ∧ ¬ y < (Int32.ofInt (-1)) ∧ ¬ nI 4 < y then (if y = (Int32.ofInt (-1)) then nI 1 else if nI 40 < z then (Int32.ofInt (-1)) else if z < 0 then Int32.ofInt (-14) else nI 1) else (Int32.ofInt (-1))
def tr_S (S : Nat → Int32) (x y z : Int32) : Nat → Int32 := if okSt x y z then upA S x.toNatClampNeg y else S
def tr_Z (Z : Nat → Nat) (x y z : Int32) : Nat → Nat := if okSt x y z ∧ ¬ y = (Int32.ofInt (-1)) then upA Z x.toNatClampNeg z.toNatClampNeg else Z
def tr_T (T : Nat → Nat → Int32) (x y z : Int32) : Nat → Nat → Int32 := if okSt x y z ∧ ¬ y = (Int32.ofInt (-1)) then upA T x.toNatClampNeg (fun _ => nI 0) else T
section I2s
variable {I I' : mI} {J : mJ} {d k n q p : Nat} {x y z u v : Int32} {S : Nat → Int32} {Z : Nat → Nat} {T : Nat → Nat → Int32}
theorem isSh_n (h : isSh x) : ∃ q, q < 4 ∧ x = nI q := n_below (by decide) h.1 h.2
theorem n_le4 (h0 : ¬ y < (Int32.ofInt (-1))) (h1 : ¬ y = (Int32.ofInt (-1))) (h4 : ¬ nI 4 < y) : ∃ t, t ≤ 4 ∧ y = nI t := by
  have h : ¬ y < 0 := fun hh => by
    have e1 : y.toInt < 0 := by have := Int32.lt_iff_toInt_lt.mp hh; simpa using this
    have e2 : ¬ y.toInt < -1 := fun e => h0 (Int32.lt_iff_toInt_lt.mpr (by rw [show (Int32.ofInt (-1)).toInt = -1 from by decide]; exact e))
    exact h1 (Int32.toInt_inj.mp (by rw [show (Int32.ofInt (-1)).toInt = -1 from by decide]; omega))
  obtain ⟨t, ht, rfl⟩ := nI_of h
  rw [n_lt (by decide) ht] at h4
  exact ⟨t, by omega, rfl⟩
theorem wfS_tr (h : wfS S Z) : wfS (tr_S S x y z) (tr_Z Z x y z) := by
  intro q hq
  unfold tr_S tr_Z
  by_cases ho : okSt x y z
  · rw [if_pos ho]
    by_cases hy : y = (Int32.ofInt (-1))
    · rw [if_neg (fun h => h.2 hy)]
      refine ⟨?_, (h q hq).2⟩
      by_cases e : q = x.toNatClampNeg
      · subst e; rw [upA_eq]; exact Or.inl hy
      · rw [upA_ne e]; exact (h q hq).1
    · rw [if_pos ⟨ho, hy⟩]
      by_cases e : q = x.toNatClampNeg
      · subst e
        rw [upA_eq, upA_eq]
        refine ⟨Or.inr (n_le4 ho.2.1.1 hy ho.2.1.2), ?_⟩
        rcases ho.2.2 with h1 | ⟨h1, h2⟩
        · exact absurd h1 hy
        · obtain ⟨n, hn, rfl⟩ := nI_of h2
          rw [n_lt (by decide) hn] at h1
          rw [nI_clamp hn]
          omega
      · rw [upA_ne e, upA_ne e]; exact h q hq
  · rw [if_neg ho, if_neg (fun h => ho h.1)]
    exact h q hq
theorem lc_220_ok : (103 ≤ lyC 220 ∧ lyC 220 < 200) = True := by rw [lc_220]; exact eq_true (by decide)
theorem e128 (hq : q < 4) (hn : n ≤ 40) : ∀ j k (I1 : mI), k + j = n → (∀ a, a ≠ 221 + q → I1 a = I a) → (∀ i, i < k → I1 (221 + q) i = nI 0) → ∃ I', (∀ a, a ≠ 221 + q → a ≠ 225 → I' a = I a) ∧ (∀ i, i ≠ q → I' 225 i = I 225 i) ∧ I' 225 q = y ∧ (∀ i, i < n → I' (221 + q) i = nI 0) ∧ am_X (am_cal d) 128 34 [.ref 0, .int (nI q), .int y, .int (nI n), .int (nI k)] [] (mS I1 J) = some (some (.int (nI 1)), mS I' J) := by
  intro j
  have i0c : (nI (q)).toNatClampNeg = q := nI_clamp (by omega)
  have i0z : (nI (q) < 0) = False := n_ge0 (by omega)
  have i0l : (4 ≤ q) = False := n_lef (by omega)
  induction j with
  | zero =>
    intro k I1 hk h1 h2
    have hk' : k = n := by omega
    subst hk'
    refine ⟨wI I1 225 q y, fun a h3 h4 => ?_, fun i hi => ?_, wI_eq, fun i hi => ?_, ?_⟩
    · rw [wI_F1 a h4, h1 a h3]
    · rw [wI_nk hi, h1 225 (by omega)]
    · rw [wI_ne (by omega)]; exact h2 i hi
    · rw [e_128_34]
      simp only [lc_0, lr_0_12, lc_225, ll_225, i0c, i0z, i0l, n_lt (show k < 2 ^ 31 by omega) (show k < 2 ^ 31 by omega), Nat.lt_irrefl, bq_s, mS_c, mS_l, mS_r, mS_i, mS_j, mS_pi, mS_pj, lt_st, bq_s, bV_s, bI_s, bJ_s, bA_s, nz_0, nc_0, nz_1, nc_1, nz_2, nc_2, nz_3, nc_3, nz_4, nc_4, nz_5, nc_5, nz_6, nc_6, nz_7, nc_7, nz_8, nc_8, nz_9, nc_9, nz_10, nc_10, nz_11, nc_11, nz_12, nc_12, if_true, if_false, eq_self, true_and, and_true, false_or, or_false, true_or, or_true, false_and, and_false, not_true, not_false_eq_true, ne_eq, ite_self, ite_not, ↓reduceIte, n_101, n_107, n_11]
  | succ j ih =>
    intro k I1 hk h1 h2
    have i1c : (nI (k)).toNatClampNeg = k := nI_clamp (by omega)
    have i1z : (nI (k) < 0) = False := n_ge0 (by omega)
    have i1l : (40 ≤ k) = False := n_lef (by omega)
    obtain ⟨I', a1, a2, a3, a4, a5⟩ := ih (k + 1) (wI I1 (221 + q) k (nI 0)) (by omega) (fun a ha => by rw [wI_F1 a ha, h1 a ha]) (fun i hi => by
      by_cases e : i = k
      · subst e; rw [wI_eq]
      · rw [wI_nk e]; exact h2 i (by omega))
    refine ⟨I', a1, a2, a3, a4, ?_⟩
    rw [e_128_34]
    simp only [lc_0, lr_0_11, lc_220_ok, ll_220, sh_r hq, sh_c hq, sh_l hq, i0c, i0z, i0l, i1c, i1z, i1l, n_lt (show k < 2 ^ 31 by omega) (show n < 2 ^ 31 by omega), eq_true (show k < n by omega), nI_add, bq_s, mS_c, mS_l, mS_r, mS_i, mS_j, mS_pi, mS_pj, lt_st, bq_s, bV_s, bI_s, bJ_s, bA_s, nz_0, nc_0, nz_1, nc_1, nz_2, nc_2, nz_3, nc_3, nz_4, nc_4, nz_5, nc_5, nz_6, nc_6, nz_7, nc_7, nz_8, nc_8, nz_9, nc_9, nz_10, nc_10, nz_11, nc_11, nz_12, nc_12, if_true, if_false, eq_self, true_and, and_true, false_or, or_false, true_or, or_true, false_and, and_false, not_true, not_false_eq_true, ne_eq, ite_self, ite_not, ↓reduceIte, n_101, n_107, n_11]
    exact a5
theorem k128 (hC : ShC I S Z T) : ∃ I', FS I' I ∧ ShC I' (tr_S S x y z) (tr_Z Z x y z) (tr_T T x y z) ∧ am_cal (d + 2) 128 [.ref 0, .int x, .int y, .int z] (mS I J) = some (some (.int (v_sheet x y z)), mS I' J) := by
  unfold tr_S tr_Z tr_T v_sheet
  by_cases hx : isSh x
  · by_cases h0 : y < (Int32.ofInt (-1))
    · rw [if_neg (fun h => h.2.1.1 h0), if_neg (fun h => h.1.2.1.1 h0), if_neg (fun h => h.1.2.1.1 h0), if_neg (fun h => h.2.1 h0)]
      refine ⟨I, fun _ _ => rfl, hC, ?_⟩
      rw [c_128 lc_0, k145, bI_s, if_pos hx]
      simp only [z_f, if_pos h0, bq_s, mS_c, mS_l, mS_r, mS_i, mS_j, mS_pi, mS_pj, lt_st, bq_s, bV_s, bI_s, bJ_s, bA_s, nz_0, nc_0, nz_1, nc_1, nz_2, nc_2, nz_3, nc_3, nz_4, nc_4, nz_5, nc_5, nz_6, nc_6, nz_7, nc_7, nz_8, nc_8, nz_9, nc_9, nz_10, nc_10, nz_11, nc_11, nz_12, nc_12, if_true, if_false, eq_self, true_and, and_true, false_or, or_false, true_or, or_true, false_and, and_false, not_true, not_false_eq_true, ne_eq, ite_self, ite_not, ↓reduceIte, n_101, n_107, n_11]
    · by_cases h4 : nI 4 < y
      · rw [if_neg (fun h => h.2.1.2 h4), if_neg (fun h => h.1.2.1.2 h4), if_neg (fun h => h.1.2.1.2 h4), if_neg (fun h => h.2.2 h4)]
        refine ⟨I, fun _ _ => rfl, hC, ?_⟩
        rw [c_128 lc_0, k145, bI_s, if_pos hx]
        simp only [z_f, if_pos h4, if_neg h0, bq_s, mS_c, mS_l, mS_r, mS_i, mS_j, mS_pi, mS_pj, lt_st, bq_s, bV_s, bI_s, bJ_s, bA_s, nz_0, nc_0, nz_1, nc_1, nz_2, nc_2, nz_3, nc_3, nz_4, nc_4, nz_5, nc_5, nz_6, nc_6, nz_7, nc_7, nz_8, nc_8, nz_9, nc_9, nz_10, nc_10, nz_11, nc_11, nz_12, nc_12, if_true, if_false, eq_self, true_and, and_true, false_or, or_false, true_or, or_true, false_and, and_false, not_true, not_false_eq_true, ne_eq, ite_self, ite_not, ↓reduceIte, n_101, n_107, n_11]
      · rw [if_pos (show isSh x ∧ ¬ y < (Int32.ofInt (-1)) ∧ ¬ nI 4 < y from ⟨hx, h0, h4⟩)]
        obtain ⟨q, hq, rfl⟩ := isSh_n hx
        have i0c : (nI (q)).toNatClampNeg = q := nI_clamp (by omega)
        have i0z : (nI (q) < 0) = False := n_ge0 (by omega)
        have i0l : (4 ≤ q) = False := n_lef (by omega)
        by_cases h1 : y = (Int32.ofInt (-1))
        · rw [if_pos (show okSt (nI q) y z from ⟨hx, ⟨h0, h4⟩, Or.inl h1⟩), if_neg (fun h => h.2 h1), if_neg (fun h => h.2 h1), if_pos h1, i0c]
          refine ⟨wI I 225 q y, fun a ha => wI_F1 a (by omega), fun p hp => ?_, ?_⟩
          · by_cases e : p = q
            · subst e
              rw [wI_eq, upA_eq]
              exact ⟨rfl, fun h => absurd h1 h⟩
            · rw [wI_nk e, upA_ne e, wI_F1 226 (by decide), wI_F1 (221 + p) (by omega)]
              exact hC p hp
          · rw [c_128 lc_0, k145, bI_s, if_pos hx]
            subst h1
            simp only [z_f, if_neg h0, if_neg h4, lc_0, lr_0_12, lc_225, ll_225, i0c, i0z, i0l, bq_s, mS_c, mS_l, mS_r, mS_i, mS_j, mS_pi, mS_pj, lt_st, bq_s, bV_s, bI_s, bJ_s, bA_s, nz_0, nc_0, nz_1, nc_1, nz_2, nc_2, nz_3, nc_3, nz_4, nc_4, nz_5, nc_5, nz_6, nc_6, nz_7, nc_7, nz_8, nc_8, nz_9, nc_9, nz_10, nc_10, nz_11, nc_11, nz_12, nc_12, if_true, if_false, eq_self, true_and, and_true, false_or, or_false, true_or, or_true, false_and, and_false, not_true, not_false_eq_true, ne_eq, ite_self, ite_not, ↓reduceIte, n_101, n_107, n_11]
        · rw [if_neg h1]
          by_cases h40 : nI 40 < z
          · rw [if_pos h40, if_neg (fun h => by rcases h.2.2 with h | h; exact h1 h; exact h.1 h40), if_neg (fun h => by rcases h.1.2.2 with h | h; exact h1 h; exact h.1 h40), if_neg (fun h => by rcases h.1.2.2 with h | h; exact h1 h; exact h.1 h40)]
            refine ⟨I, fun _ _ => rfl, hC, ?_⟩
            rw [c_128 lc_0, k145, bI_s, if_pos hx]
            simp only [z_f, if_neg h0, if_neg h4, if_neg h1, lc_0, lr_0_11, lc_220_ok, ll_220, sh_r hq, sh_c hq, sh_l hq, i0c, i0z, i0l, if_pos h40, show (100 ≤ 100 ∧ 100 < 200) = True from eq_true (by decide), bq_s, mS_c, mS_l, mS_r, mS_i, mS_j, mS_pi, mS_pj, lt_st, bq_s, bV_s, bI_s, bJ_s, bA_s, nz_0, nc_0, nz_1, nc_1, nz_2, nc_2, nz_3, nc_3, nz_4, nc_4, nz_5, nc_5, nz_6, nc_6, nz_7, nc_7, nz_8, nc_8, nz_9, nc_9, nz_10, nc_10, nz_11, nc_11, nz_12, nc_12, if_true, if_false, eq_self, true_and, and_true, false_or, or_false, true_or, or_true, false_and, and_false, not_true, not_false_eq_true, ne_eq, ite_self, ite_not, ↓reduceIte, n_101, n_107, n_11]
          · rw [if_neg h40]
            by_cases hz : z < 0
            · rw [if_pos hz, if_neg (fun h => by rcases h.2.2 with h | h; exact h1 h; exact h.2 hz), if_neg (fun h => by rcases h.1.2.2 with h | h; exact h1 h; exact h.2 hz), if_neg (fun h => by rcases h.1.2.2 with h | h; exact h1 h; exact h.2 hz)]
              refine ⟨I, fun _ _ => rfl, hC, ?_⟩
              rw [c_128 lc_0, k145, bI_s, if_pos hx]
              simp only [z_f, if_neg h0, if_neg h4, if_neg h1, lc_0, lr_0_11, lc_220_ok, ll_220, sh_r hq, sh_c hq, sh_l hq, i0c, i0z, i0l, if_neg h40, if_pos hz, show (100 ≤ 100 ∧ 100 < 200) = True from eq_true (by decide), bq_s, mS_c, mS_l, mS_r, mS_i, mS_j, mS_pi, mS_pj, lt_st, bq_s, bV_s, bI_s, bJ_s, bA_s, nz_0, nc_0, nz_1, nc_1, nz_2, nc_2, nz_3, nc_3, nz_4, nc_4, nz_5, nc_5, nz_6, nc_6, nz_7, nc_7, nz_8, nc_8, nz_9, nc_9, nz_10, nc_10, nz_11, nc_11, nz_12, nc_12, if_true, if_false, eq_self, true_and, and_true, false_or, or_false, true_or, or_true, false_and, and_false, not_true, not_false_eq_true, ne_eq, ite_self, ite_not, ↓reduceIte, n_101, n_107, n_11]
            · have ho : okSt (nI q) y z := ⟨hx, ⟨h0, h4⟩, Or.inr ⟨h40, hz⟩⟩
              rw [if_neg hz, if_pos ho, if_pos ⟨ho, h1⟩, if_pos ⟨ho, h1⟩, i0c]
              obtain ⟨n, hn, rfl⟩ := nI_of hz
              have hn40 : n ≤ 40 := by rw [n_lt (by decide) hn] at h40; omega
              obtain ⟨I', a1, a2, a3, a4, a5⟩ := e128 (d := d + 1) (J := J) (y := y) hq hn40 n 0 (I := wI I 226 q (nI n)) (wI I 226 q (nI n)) (by omega) (fun _ _ => rfl) (fun i hi => absurd hi (by omega))
              refine ⟨I', fun a ha => by rw [a1 a (by omega) (by omega), wI_F1 a (by omega)], fun p hp => ?_, ?_⟩
              · by_cases e : p = q
                · subst e
                  rw [upA_eq, upA_eq, upA_eq, a3, a1 226 (by omega) (by decide), wI_eq, nI_clamp hn]
                  exact ⟨rfl, fun _ => ⟨rfl, a4⟩⟩
                · rw [upA_ne e, upA_ne e, upA_ne e, a2 p e, a1 226 (by omega) (by decide), wI_ne (show (225 : Nat) ≠ 226 by decide), wI_nk e, a1 (221 + p) (by omega) (by omega), wI_F1 (221 + p) (by omega)]
                  exact hC p hp
              · rw [c_128 lc_0, k145, bI_s, if_pos hx]
                simp only [z_f, if_neg h0, if_neg h4, if_neg h1, lc_0, lr_0_11, lr_0_13, lc_226, ll_226, lc_220_ok, ll_220, sh_r hq, sh_c hq, sh_l hq, i0c, i0z, i0l, if_neg h40, if_neg hz, show (100 ≤ 100 ∧ 100 < 200) = True from eq_true (by decide), bq_s, mS_c, mS_l, mS_r, mS_i, mS_j, mS_pi, mS_pj, lt_st, bq_s, bV_s, bI_s, bJ_s, bA_s, nz_0, nc_0, nz_1, nc_1, nz_2, nc_2, nz_3, nc_3, nz_4, nc_4, nz_5, nc_5, nz_6, nc_6, nz_7, nc_7, nz_8, nc_8, nz_9, nc_9, nz_10, nc_10, nz_11, nc_11, nz_12, nc_12, if_true, if_false, eq_self, true_and, and_true, false_or, or_false, true_or, or_true, false_and, and_false, not_true, not_false_eq_true, ne_eq, ite_self, ite_not, ↓reduceIte, n_101, n_107, n_11]
                exact a5
  · rw [if_neg (fun h => hx h.1), if_neg (fun h => hx h.1.1), if_neg (fun h => hx h.1.1), if_neg (fun h => hx h.1)]
    refine ⟨I, fun _ _ => rfl, hC, ?_⟩
    rw [c_128 lc_0, k145, bI_s, if_neg hx, if_pos nI_0]
end I2s
