/-! ===== law ===== -/
def v_law (T : Nat → Nat) (n : Nat) : Int32 := match lawN T n with
  | .inl p => Int32.ofInt (-100) - nI p
  | .inr cl => nI cl.length
def tr_law (s : Rw) (T : Nat → Nat) (n : Nat) : Rw := match lawN T n with
  | .inl _ => s
  | .inr cl => lawS s cl
section J15s
variable {I I' : mI} {J : mJ} {s s' : Rw} {d k n q p i c m a e b L j : Nat} {x y : Int32} {T : Nat → Nat} {t t' : Tok} {xs : Nat → Int32} {cl cl' : List Cl}
theorem tk_end (hT : okT T n) : (tkW T n t = Int32.ofInt (-1)) = (¬ t.1 < n) := by
  unfold tkW
  by_cases h1 : t.1 < n
  · rw [if_pos h1]
    have hb := hT.2 _ h1
    refine propext ⟨fun h => ?_, fun h => absurd h1 h⟩
    by_cases h2 : ltr (T t.1)
    · rw [if_pos h2] at h; exact absurd h (by decide)
    · rw [if_neg h2] at h
      by_cases h3 : dgt (T t.1)
      · rw [if_pos h3] at h; split at h <;> exact absurd h (by decide)
      · rw [if_neg h3] at h
        have h5 : ¬ nI (T t.1) < 0 := nI_pos (by omega)
        rw [h] at h5
        exact absurd (show Int32.ofInt (-1) < 0 by decide) h5
  · rw [if_neg h1]; exact propext ⟨fun _ => h1, fun _ => rfl⟩
theorem lwU_s {f : Nat} : lwU T n (f + 1) t cl = if t.1 < n then (match clN T n cl.length t with
    | .inl p => .inl p
    | .inr (t', c) => lwU T n f t' (cl ++ [c])) else .inr cl := rfl
theorem e102 (hT : okT T n) (hW : WF s) : ∀ f t cl (I1 : mI), f + cl.length = 11 → okCs cl → (eMs (opsOf cl)).length ≤ t.1 → FX L xs I1 → TxC I1 T n → LxC I1 T n t → okQ T n t → LwC I1 cl → Rep I1 1 s → match lwU T n f t cl with
    | .inl p => ∃ I', FrL I' I1 ∧ am_X (am_cal (d + 29)) 102 10 [.ref 0, .int (nI cl.length)] [] (mS I1 J) = some (some (.int (Int32.ofInt (-100) - nI p)), mS I' J)
    | .inr cl' => ∃ I', (∀ a, (a < 1 ∨ 64 ≤ a) → (a < 199 ∨ 204 < a) → I' a = I1 a) ∧ Rep I' 1 (lawS s cl') ∧ am_X (am_cal (d + 29)) 102 10 [.ref 0, .int (nI cl.length)] [] (mS I1 J) = some (some (.int (nI cl'.length)), mS I' J) := by
  have hn := hT.1
  intro f
  induction f with
  | zero => intro t cl I1 hf hc; have := hc.1; omega
  | succ f ih =>
    intro t cl I1 hf hc hr hF hX hL ht hLw hR
    have h10 := hc.1
    have e0 : am_X (am_cal (d + 29)) 102 10 [.ref 0, .int (nI cl.length)] [] (mS I1 J) = _ := e_102_10
    have h20 : am_cal (d + 28 + 1) 20 [.ref 199] (mS I1 J) = some (some (.int (if t.1 < n then nI 0 else nI 1)), mS I1 J) := by
      rw [c_20 lc_199]
      simp only [lc_199, hL.2.2.2.1, tk_end hT, o_if, ite_not, bq_s, mS_c, mS_l, mS_r, mS_i, mS_j, mS_pi, mS_pj, lt_st, bq_s, bV_s, bI_s, bJ_s, bA_s, nz_0, nc_0, nz_1, nc_1, nz_2, nc_2, nz_3, nc_3, nz_4, nc_4, nz_5, nc_5, nz_6, nc_6, nz_7, nc_7, nz_8, nc_8, nz_9, nc_9, nz_10, nc_10, nz_11, nc_11, nz_12, nc_12, if_true, if_false, eq_self, true_and, and_true, false_or, or_false, true_or, or_true, false_and, and_false, not_true, not_false_eq_true, ne_eq, ite_self, ite_not, ↓reduceIte, n_101, n_107, n_11]
    rw [if_neg (show ¬ nI 10 < nI cl.length by rw [n_lt (by decide) (by omega)]; omega)] at e0
    simp only [lc_0, lr_0_0, lr_0_8, lc_199, lr_199_0, show d + 29 = d + 28 + 1 from rfl, h20, bq_s, mS_c, mS_l, mS_r, mS_i, mS_j, mS_pi, mS_pj, lt_st, bq_s, bV_s, bI_s, bJ_s, bA_s, nz_0, nc_0, nz_1, nc_1, nz_2, nc_2, nz_3, nc_3, nz_4, nc_4, nz_5, nc_5, nz_6, nc_6, nz_7, nc_7, nz_8, nc_8, nz_9, nc_9, nz_10, nc_10, nz_11, nc_11, nz_12, nc_12, if_true, if_false, eq_self, true_and, and_true, false_or, or_false, true_or, or_true, false_and, and_false, not_true, not_false_eq_true, ne_eq, ite_self, ite_not, ↓reduceIte, n_101, n_107, n_11] at e0
    rw [lwU_s]
    by_cases htn : t.1 < n
    · rw [if_pos htn]
      rw [if_pos htn, if_pos nI_0] at e0
      have h21 := k21 (d := d) (J := J) hF hT hX hL ht hLw h10 (Nat.le_trans (eMs_len _) hr)
      cases hcl : clN T n cl.length t with
      | inl p =>
        rw [hcl] at h21
        obtain ⟨I2, a1, a2, a3⟩ := h21
        rw [show d + 28 + 1 = d + 29 from rfl, a3, bI_s, if_pos nI_0] at e0
        simp only [lc_0, lr_0_8, lc_199, a2, bq_s, mS_c, mS_l, mS_r, mS_i, mS_j, mS_pi, mS_pj, lt_st, bq_s, bV_s, bI_s, bJ_s, bA_s, nz_0, nc_0, nz_1, nc_1, nz_2, nc_2, nz_3, nc_3, nz_4, nc_4, nz_5, nc_5, nz_6, nc_6, nz_7, nc_7, nz_8, nc_8, nz_9, nc_9, nz_10, nc_10, nz_11, nc_11, nz_12, nc_12, if_true, if_false, eq_self, true_and, and_true, false_or, or_false, true_or, or_true, false_and, and_false, not_true, not_false_eq_true, ne_eq, ite_self, ite_not, ↓reduceIte, n_101, n_107, n_11] at e0
        exact ⟨I2, a1, e0⟩
      | inr r =>
        obtain ⟨t2, c⟩ := r
        rw [hcl] at h21
        obtain ⟨I2, a1, a2, a3, a4⟩ := h21
        obtain ⟨g1, g2, g3, g4⟩ := cl_ok ht hcl
        rw [show d + 28 + 1 = d + 29 from rfl, a4, bI_s, if_neg (by decide), nI_add] at e0
        have hlen : (cl ++ [c]).length = cl.length + 1 := by rw [List.length_append]; rfl
        have hF2 : FX L xs I2 := fun a ha => by rw [a1 a (by omega)]; exact hF a ha
        have hX2 : TxC I2 T n := fun k hk => by rw [a1 198 (by omega)]; exact hX k hk
        have hR2 : Rep I2 1 s := hR.fr hW fun a h1 h2 h3 => a1 a (by omega)
        have := ih t2 (cl ++ [c]) I2 (by omega) (okCs_a hc g4 g3) (by rw [eMs_a]; omega) hF2 hX2 a2 g1 a3 hR2
        rw [hlen, ← e0] at this
        show match lwU T n f t2 (cl ++ [c]) with
          | .inl p => ∃ I', FrL I' I1 ∧ am_X (am_cal (d + 29)) 102 10 [.ref 0, .int (nI cl.length)] [] (mS I1 J) = some (some (.int (Int32.ofInt (-100) - nI p)), mS I' J)
          | .inr cl' => ∃ I', (∀ a, (a < 1 ∨ 64 ≤ a) → (a < 199 ∨ 204 < a) → I' a = I1 a) ∧ Rep I' 1 (lawS s cl') ∧ am_X (am_cal (d + 29)) 102 10 [.ref 0, .int (nI cl.length)] [] (mS I1 J) = some (some (.int (nI cl'.length)), mS I' J)
        cases hl : lwU T n f t2 (cl ++ [c]) with
        | inl p =>
          rw [hl] at this
          obtain ⟨I3, b1, b2⟩ := this
          exact ⟨I3, b1.tr a1, b2⟩
        | inr cl' =>
          rw [hl] at this
          obtain ⟨I3, b1, b2, b3⟩ := this
          exact ⟨I3, fun a h h' => by rw [b1 a h h', a1 a h'], b2, b3⟩
    · rw [if_neg htn]
      rw [if_neg htn, if_neg (by decide)] at e0
      have u1 := ht.1.1
      have u2 := ht.1.2.1
      obtain ⟨I2, a1, a2, a3⟩ := k84 (d := d + 22) (J := J) hR hW hc (by omega) hLw
      rw [show d + 28 + 1 = d + 22 + 7 from rfl, a3, bV_s] at e0
      have h4 : I2 8 4 = nI cl.length := a2.L.1.trans lw_6
      simp only [lc_0, lr_0_0, w_C W1, w_R6 W1, show 1 + 7 = 8 from rfl, show lyC (1 + 7) = 3 from l_C W1.l, show lyC 8 = 3 from l_C W1.l, h4, bq_s, mS_c, mS_l, mS_r, mS_i, mS_j, mS_pi, mS_pj, lt_st, bq_s, bV_s, bI_s, bJ_s, bA_s, nz_0, nc_0, nz_1, nc_1, nz_2, nc_2, nz_3, nc_3, nz_4, nc_4, nz_5, nc_5, nz_6, nc_6, nz_7, nc_7, nz_8, nc_8, nz_9, nc_9, nz_10, nc_10, nz_11, nc_11, nz_12, nc_12, if_true, if_false, eq_self, true_and, and_true, false_or, or_false, true_or, or_true, false_and, and_false, not_true, not_false_eq_true, ne_eq, ite_self, ite_not, ↓reduceIte, n_101, n_107, n_11] at e0
      exact ⟨I2, fun a h h' => a1 a h, a2, e0⟩
theorem k102 (hF : FX L xs I) (hT : okT T n) (hC : TpC I T n) (hR : Rep I 1 s) (hW : WF s) : ∃ I', (∀ a, a ≠ 0 → (a < 1 ∨ 64 ≤ a) → (a < 199 ∨ 204 < a) → I' a = I a) ∧ (∀ f, f ≠ 17 → I' 0 f = I 0 f) ∧ I' 0 17 = nI 0 ∧ Rep I' 1 (tr_law s T n) ∧ am_cal (d + 30) 102 [.ref 0] (mS I J) = some (some (.int (v_law T n)), mS I' J) := by
  have hn := hT.1
  obtain ⟨h17, hX⟩ := hC
  have e0 : am_cal (d + 30) 102 [.ref 0] (mS I J) = _ := c_102 lc_0
  simp only [lc_0, lr_0_8, h17, bq_s, mS_c, mS_l, mS_r, mS_i, mS_j, mS_pi, mS_pj, lt_st, bq_s, bV_s, bI_s, bJ_s, bA_s, nz_0, nc_0, nz_1, nc_1, nz_2, nc_2, nz_3, nc_3, nz_4, nc_4, nz_5, nc_5, nz_6, nc_6, nz_7, nc_7, nz_8, nc_8, nz_9, nc_9, nz_10, nc_10, nz_11, nc_11, nz_12, nc_12, if_true, if_false, eq_self, true_and, and_true, false_or, or_false, true_or, or_true, false_and, and_false, not_true, not_false_eq_true, ne_eq, ite_self, ite_not, ↓reduceIte, n_101, n_107, n_11] at e0
  -- opened
  generalize hI0 : wI (wI I 199 2 (nI n)) 199 4 (nI 0) = I0
  have o0 : ∀ a, a ≠ 199 → I0 a = I a := fun a h => by rw [← hI0, wI_F1 a h, wI_F1 a h]
  generalize hI1 : wI (wI (wI I0 200 4 (nI 0)) 203 0 (nI 0)) 203 1 (nI 0) = I1
  have o1 : ∀ a, a ≠ 200 → a ≠ 203 → I1 a = I0 a := fun a h h' => by rw [← hI1, wI_F1 a h', wI_F1 a h', wI_F1 a h]
  have h11 : am_cal (d + 27 + 1) 11 [.ref 200] (mS I0 J) = some (none, mS I1 J) := by
    rw [c_11 lc_200]
    simp only [lc_200, lr_200_2, lc_203, ll_203, n_lef (show 0 < 11 by decide), n_lef (show 1 < 11 by decide), hI1, bq_s, mS_c, mS_l, mS_r, mS_i, mS_j, mS_pi, mS_pj, lt_st, bq_s, bV_s, bI_s, bJ_s, bA_s, nz_0, nc_0, nz_1, nc_1, nz_2, nc_2, nz_3, nc_3, nz_4, nc_4, nz_5, nc_5, nz_6, nc_6, nz_7, nc_7, nz_8, nc_8, nz_9, nc_9, nz_10, nc_10, nz_11, nc_11, nz_12, nc_12, if_true, if_false, eq_self, true_and, and_true, false_or, or_false, true_or, or_true, false_and, and_false, not_true, not_false_eq_true, ne_eq, ite_self, ite_not, ↓reduceIte, n_101, n_107, n_11]
  have g2 : I1 199 2 = nI n := by rw [o1 199 (by decide) (by decide), ← hI0, wI_nk (by decide), wI_eq]
  have g4 : I1 199 4 = nI 0 := by rw [o1 199 (by decide) (by decide), ← hI0, wI_eq]
  obtain ⟨I2, b1, b2, b3⟩ := k27 (d := d + 25) (J := J) (I := I1) hT (fun k hk => by rw [o1 198 (by decide) (by decide), o0 198 (by decide)]; exact hX k hk) g2 g4 (Nat.zero_le n)
  have h19 : am_cal (d + 28 + 1) 19 [.ref 199, .int (nI n)] (mS I J) = some (none, mS I2 J) := by
    rw [c_19 lc_199]
    simp only [lc_199, lr_199_0, hI0, show d + 28 = d + 27 + 1 from rfl, h11, bq_s, mS_c, mS_l, mS_r, mS_i, mS_j, mS_pi, mS_pj, lt_st, bq_s, bV_s, bI_s, bJ_s, bA_s, nz_0, nc_0, nz_1, nc_1, nz_2, nc_2, nz_3, nc_3, nz_4, nc_4, nz_5, nc_5, nz_6, nc_6, nz_7, nc_7, nz_8, nc_8, nz_9, nc_9, nz_10, nc_10, nz_11, nc_11, nz_12, nc_12, if_true, if_false, eq_self, true_and, and_true, false_or, or_false, true_or, or_true, false_and, and_false, not_true, not_false_eq_true, ne_eq, ite_self, ite_not, ↓reduceIte, n_101, n_107, n_11]
    rw [show d + 27 + 1 = d + 25 + 3 from rfl, b3, bV_s]
  rw [show d + 29 = d + 28 + 1 from rfl, h19, bV_s] at e0
  simp only [lc_0, bq_s, mS_c, mS_l, mS_r, mS_i, mS_j, mS_pi, mS_pj, lt_st, bq_s, bV_s, bI_s, bJ_s, bA_s, nz_0, nc_0, nz_1, nc_1, nz_2, nc_2, nz_3, nc_3, nz_4, nc_4, nz_5, nc_5, nz_6, nc_6, nz_7, nc_7, nz_8, nc_8, nz_9, nc_9, nz_10, nc_10, nz_11, nc_11, nz_12, nc_12, if_true, if_false, eq_self, true_and, and_true, false_or, or_false, true_or, or_true, false_and, and_false, not_true, not_false_eq_true, ne_eq, ite_self, ite_not, ↓reduceIte, n_101, n_107, n_11] at e0
  generalize hI3 : wI I2 0 17 (nI 0) = I3 at e0
  have o3 : ∀ a, a ≠ 0 → I3 a = I2 a := fun a h => by rw [← hI3, wI_F1 a h]
  have keep : ∀ a, a ≠ 0 → a ≠ 199 → a ≠ 200 → a ≠ 203 → I3 a = I a := fun a h1 h2 h3 h4 => by rw [o3 a h1, b1 a h2, o1 a h3 h4, o0 a h2]
  have hF3 : FX L xs I3 := fun a ha => by rw [keep a (by omega) (by omega) (by omega) (by omega)]; exact hF a ha
  have hX3 : TxC I3 T n := fun k hk => by rw [keep 198 (by decide) (by decide) (by decide) (by decide)]; exact hX k hk
  have hR3 : Rep I3 1 s := hR.fr hW fun a h1 h2 h3 => keep a (by omega) (by omega) (by omega) (by omega)
  have hL3 : LxC I3 T n (lx T n 0) := by unfold LxC; rw [o3 199 (by decide)]; exact b2
  have hLw3 : LwC I3 [] := by
    have e200 : I3 200 4 = nI 0 := by rw [o3 200 (by decide), b1 200 (by decide), ← hI1, wI_ne (by decide), wI_ne (by decide), wI_eq]
    have e203 : I3 203 0 = nI 0 ∧ I3 203 1 = nI 0 := by
      rw [o3 203 (by decide), b1 203 (by decide), ← hI1]
      exact ⟨by rw [wI_nk (by decide), wI_eq], wI_eq⟩
    refine ⟨e200, fun i hi => absurd hi (Nat.not_lt_zero i), fun i hi => ?_, fun _ => e203.2, fun j hj => absurd hj (Nat.not_lt_zero j)⟩
    have : i = 0 := by simpa using hi
    subst this
    exact e203.1
  have hh := e102 (d := d) (J := J) hT hW 11 (lx T n 0) [] I3 rfl ⟨Nat.zero_le _, fun c h => by cases h⟩ (Nat.zero_le _) hF3 hX3 hL3 (lx_q (Nat.zero_le n)) hLw3 hR3
  have g17 : I3 0 17 = nI 0 := by rw [← hI3, wI_eq]
  have gf : ∀ f, f ≠ 17 → I3 0 f = I 0 f := fun f hf => by rw [← hI3, wI_nk hf, b1 0 (by decide), o1 0 (by decide) (by decide), o0 0 (by decide)]
  unfold tr_law v_law
  cases hl : lawN T n with
  | inl p =>
    rw [show lwU T n 11 (lx T n 0) [] = _ from hl] at hh
    obtain ⟨I4, c1, c2⟩ := hh
    exact ⟨I4, fun a h1 h2 h3 => by rw [c1 a h3, keep a h1 (by omega) (by omega) (by omega)], fun f hf => by rw [c1 0 (by omega)]; exact gf f hf, by rw [c1 0 (by omega)]; exact g17, hR3.fr hW fun a h1 h2 h3 => c1 a (by omega), e0.trans c2⟩
  | inr cl =>
    rw [show lwU T n 11 (lx T n 0) [] = _ from hl] at hh
    obtain ⟨I4, c1, c2, c3⟩ := hh
    exact ⟨I4, fun a h1 h2 h3 => by rw [c1 a h2 h3, keep a h1 (by omega) (by omega) (by omega)], fun f hf => by rw [c1 0 (by omega) (by omega)]; exact gf f hf, by rw [c1 0 (by omega) (by omega)]; exact g17, c2, e0.trans c3⟩
theorem W_law (hT : okT T n) (hW : WF s) : WF (tr_law s T n) ∧ hiS (tr_law s T n) s := by
  unfold tr_law
  cases hl : lawN T n with
  | inl p => exact ⟨hW, hiS_r⟩
  | inr cl =>
    obtain ⟨a, b⟩ := lw_ok (T := T) (n := n) 11 (lx T n 0) [] (lx_q (Nat.zero_le n)) ⟨Nat.zero_le _, fun c h => by cases h⟩ (Nat.zero_le _) hT.1 hl
    exact ⟨lw_WF hW a b, lw_hi⟩
/-! the model -/
theorem e194c (hc : (eMs (opsOf cl)).length ≤ 200) (h11 : I 229 11 = nI (eMs (opsOf cl)).length) (h12 : I 229 12 = nI cl.length) (hcode : ∀ j, j < (eMs (opsOf cl)).length → I 234 j = (eMs (opsOf cl)).getD j 0) : ∀ f k (I1 : mI), k + f = 200 → (∀ a, a ≠ 230 → I1 a = I a) → (∀ j, j < 346 + k ∨ 546 ≤ j → I1 230 j = lawS s cl j) → ∃ I', (∀ a, a ≠ 230 → I' a = I a) ∧ I' 230 = lawS s cl ∧ am_X (am_cal d) 194 78 [.ref 229, .int (nI k)] [] (mS I1 J) = some (some (.int (nI cl.length)), mS I' J) := by
  intro f
  induction f with
  | zero =>
    intro k I1 hk h1 h2
    have hk' : k = 200 := by omega
    subst hk'
    refine ⟨I1, h1, funext fun j => h2 j (by omega), ?_⟩
    rw [e_194_78]
    simp only [n_lt (show 200 < 2 ^ 31 by decide) (show 200 < 2 ^ 31 by decide), Nat.lt_irrefl, lc_229, h1 229 (by decide), h12, lc_229, lr_229_0, lc_230, ll_230, bq_s, mS_c, mS_l, mS_r, mS_i, mS_j, mS_pi, mS_pj, lt_st, bq_s, bV_s, bI_s, bJ_s, bA_s, nz_0, nc_0, nz_1, nc_1, nz_2, nc_2, nz_3, nc_3, nz_4, nc_4, nz_5, nc_5, nz_6, nc_6, nz_7, nc_7, nz_8, nc_8, nz_9, nc_9, nz_10, nc_10, nz_11, nc_11, nz_12, nc_12, if_true, if_false, eq_self, true_and, and_true, false_or, or_false, true_or, or_true, false_and, and_false, not_true, not_false_eq_true, ne_eq, ite_self, ite_not, ↓reduceIte]
  | succ f ih =>
    intro k I1 hk h1 h2
    have hk2 : k < 200 := by omega
    have i0c : (nI (k)).toNatClampNeg = k := nI_clamp (by omega)
    have i0z : (nI (k) < 0) = False := n_ge0 (by omega)
    have i0l : (200 ≤ k) = False := n_lef (by omega)
    have i1c : (nI (346 + k)).toNatClampNeg = 346 + k := nI_clamp (by omega)
    have i1z : (nI (346 + k) < 0) = False := n_ge0 (by omega)
    have i1l : (546 ≤ 346 + k) = False := n_lef (by omega)
    have step : ∀ v, v = lawS s cl (346 + k) → ∃ I', (∀ a, a ≠ 230 → I' a = I a) ∧ I' 230 = lawS s cl ∧ am_X (am_cal d) 194 78 [.ref 229, .int (nI (k + 1))] [] (mS (wI I1 230 (346 + k) v) J) = some (some (.int (nI cl.length)), mS I' J) := fun v hv => ih (k + 1) _ (by omega) (fun a ha => by rw [wI_F1 a ha, h1 a ha]) (fun j hj => by
      by_cases e : j = 346 + k
      · subst e; rw [wI_eq, hv]
      · rw [wI_nk e]; exact h2 j (by omega))
    have e0 : am_X (am_cal d) 194 78 [.ref 229, .int (nI k)] [] (mS I1 J) = _ := e_194_78
    simp only [n_lt (show k < 2 ^ 31 by omega) (show 200 < 2 ^ 31 by decide), eq_true hk2, lc_229, lr_229_0, lr_229_5, lc_234, ll_234, h1 229 (by decide), h11, n_lt (show k < 2 ^ 31 by omega) (show (eMs (opsOf cl)).length < 2 ^ 31 by omega), nI_add, i0c, i0z, i0l, i1c, i1z, i1l, h1 234 (by decide), lc_229, lr_229_0, lc_230, ll_230, bq_s, mS_c, mS_l, mS_r, mS_i, mS_j, mS_pi, mS_pj, lt_st, bq_s, bV_s, bI_s, bJ_s, bA_s, nz_0, nc_0, nz_1, nc_1, nz_2, nc_2, nz_3, nc_3, nz_4, nc_4, nz_5, nc_5, nz_6, nc_6, nz_7, nc_7, nz_8, nc_8, nz_9, nc_9, nz_10, nc_10, nz_11, nc_11, nz_12, nc_12, if_true, if_false, eq_self, true_and, and_true, false_or, or_false, true_or, or_true, false_and, and_false, not_true, not_false_eq_true, ne_eq, ite_self, ite_not, ↓reduceIte] at e0
    by_cases hlt : k < (eMs (opsOf cl)).length
    · rw [if_pos hlt] at e0
      obtain ⟨I', a1, a2, a3⟩ := step (I 234 k) (by rw [hcode k hlt, lw_c hc hlt])
      exact ⟨I', a1, a2, e0.trans a3⟩
    · rw [if_neg hlt] at e0
      obtain ⟨I', a1, a2, a3⟩ := step (nI 0) (by
        unfold lawS
        rw [if_neg (by omega), if_pos (by omega), if_neg (by omega)])
      exact ⟨I', a1, a2, e0.trans a3⟩
theorem clM_at (hi : i < cl.length) (h : ∀ i, i < cl.length → ClM I cl i) {f : Nat} (hf : f < 5) : I 235 (5 * i + f) = clF cl i f := by
  obtain ⟨a, b, c, d, e⟩ := h i hi
  rcases (show f = 0 ∨ f = 1 ∨ f = 2 ∨ f = 3 ∨ f = 4 by omega) with rfl | rfl | rfl | rfl | rfl
  · exact a
  · exact b
  · exact c
  · exact d
  · exact e
theorem e194b (h10 : cl.length ≤ 10) (hc : (eMs (opsOf cl)).length ≤ 200) (h11 : I 229 11 = nI (eMs (opsOf cl)).length) (h12 : I 229 12 = nI cl.length) (hcode : ∀ j, j < (eMs (opsOf cl)).length → I 234 j = (eMs (opsOf cl)).getD j 0) (hcl : ∀ i, i < cl.length → ClM I cl i) : ∀ f k (I1 : mI), k + f = 50 → (∀ a, a ≠ 230 → I1 a = I a) → (∀ j, j < 296 + k ∨ 546 ≤ j → I1 230 j = lawS s cl j) → ∃ I', (∀ a, a ≠ 230 → I' a = I a) ∧ I' 230 = lawS s cl ∧ am_X (am_cal d) 194 53 [.ref 229, .int (nI k)] [] (mS I1 J) = some (some (.int (nI cl.length)), mS I' J) := by
  intro f
  induction f with
  | zero =>
    intro k I1 hk h1 h2
    have hk' : k = 50 := by omega
    subst hk'
    obtain ⟨I', a1, a2, a3⟩ := e194c (d := d) (J := J) (s := s) hc h11 h12 hcode 200 0 I1 rfl h1 (fun j hj => h2 j (by omega))
    refine ⟨I', a1, a2, ?_⟩
    rw [e_194_53]
    simp only [n_lt (show 50 < 2 ^ 31 by decide) (show 50 < 2 ^ 31 by decide), Nat.lt_irrefl, lc_229, lr_229_0, lc_230, ll_230, bq_s, mS_c, mS_l, mS_r, mS_i, mS_j, mS_pi, mS_pj, lt_st, bq_s, bV_s, bI_s, bJ_s, bA_s, nz_0, nc_0, nz_1, nc_1, nz_2, nc_2, nz_3, nc_3, nz_4, nc_4, nz_5, nc_5, nz_6, nc_6, nz_7, nc_7, nz_8, nc_8, nz_9, nc_9, nz_10, nc_10, nz_11, nc_11, nz_12, nc_12, if_true, if_false, eq_self, true_and, and_true, false_or, or_false, true_or, or_true, false_and, and_false, not_true, not_false_eq_true, ne_eq, ite_self, ite_not, ↓reduceIte]
    exact a3
  | succ f ih =>
    intro k I1 hk h1 h2
    have hk2 : k < 50 := by omega
    have i0c : (nI (k)).toNatClampNeg = k := nI_clamp (by omega)
    have i0z : (nI (k) < 0) = False := n_ge0 (by omega)
    have i0l : (50 ≤ k) = False := n_lef (by omega)
    have i1c : (nI (296 + k)).toNatClampNeg = 296 + k := nI_clamp (by omega)
    have i1z : (nI (296 + k) < 0) = False := n_ge0 (by omega)
    have i1l : (546 ≤ 296 + k) = False := n_lef (by omega)
    have step : ∀ v, v = lawS s cl (296 + k) → ∃ I', (∀ a, a ≠ 230 → I' a = I a) ∧ I' 230 = lawS s cl ∧ am_X (am_cal d) 194 53 [.ref 229, .int (nI (k + 1))] [] (mS (wI I1 230 (296 + k) v) J) = some (some (.int (nI cl.length)), mS I' J) := fun v hv => ih (k + 1) _ (by omega) (fun a ha => by rw [wI_F1 a ha, h1 a ha]) (fun j hj => by
      by_cases e : j = 296 + k
      · subst e; rw [wI_eq, hv]
      · rw [wI_nk e]; exact h2 j (by omega))
    have p5 : nI 5 * nI cl.length = nI (5 * cl.length) := pk_mul _ _
    have e0 : am_X (am_cal d) 194 53 [.ref 229, .int (nI k)] [] (mS I1 J) = _ := e_194_53
    simp only [n_lt (show k < 2 ^ 31 by omega) (show 50 < 2 ^ 31 by decide), eq_true hk2, lc_229, lr_229_0, lr_229_6, lc_235, ll_235, h1 229 (by decide), h12, p5, n_lt (show k < 2 ^ 31 by omega) (show 5 * cl.length < 2 ^ 31 by omega), nI_add, i0c, i0z, i0l, i1c, i1z, i1l, h1 235 (by decide), lc_229, lr_229_0, lc_230, ll_230, bq_s, mS_c, mS_l, mS_r, mS_i, mS_j, mS_pi, mS_pj, lt_st, bq_s, bV_s, bI_s, bJ_s, bA_s, nz_0, nc_0, nz_1, nc_1, nz_2, nc_2, nz_3, nc_3, nz_4, nc_4, nz_5, nc_5, nz_6, nc_6, nz_7, nc_7, nz_8, nc_8, nz_9, nc_9, nz_10, nc_10, nz_11, nc_11, nz_12, nc_12, if_true, if_false, eq_self, true_and, and_true, false_or, or_false, true_or, or_true, false_and, and_false, not_true, not_false_eq_true, ne_eq, ite_self, ite_not, ↓reduceIte] at e0
    have lv : lawS s cl (296 + k) = if k < 5 * cl.length then clF cl (k / 5) (k % 5) else nI 0 := by
      unfold lawS
      rw [if_pos (by omega), show 296 + k - 296 = k by omega]
    by_cases hlt : k < 5 * cl.length
    · rw [if_pos hlt] at e0
      obtain ⟨I', a1, a2, a3⟩ := step (I 235 k) (by
        rw [lv, if_pos hlt]
        have := clM_at (I := I) (show k / 5 < cl.length by omega) hcl (show k % 5 < 5 by omega)
        rw [show 5 * (k / 5) + k % 5 = k by omega] at this
        exact this)
      exact ⟨I', a1, a2, e0.trans a3⟩
    · rw [if_neg hlt] at e0
      obtain ⟨I', a1, a2, a3⟩ := step (nI 0) (by rw [lv, if_neg hlt])
      exact ⟨I', a1, a2, e0.trans a3⟩
abbrev FrZ (I' I : mI) : Prop := (∀ a, a ≠ 229 → a ≠ 230 → a ≠ 234 → a ≠ 235 → I' a = I a) ∧ ∀ j, (j < 7 ∨ 13 < j) → I' 229 j = I 229 j
theorem e194 (hT : okT T n) : ∀ f t cl (I1 : mI), f + cl.length = 11 → okCs cl → (eMs (opsOf cl)).length ≤ t.1 → TxM I1 T n → LxM I1 t → okQ T n t → LwM I1 cl → I1 229 13 = nI 0 → I1 229 10 = nI 0 → match lwU T n f t cl with
    | .inl p => ∃ I', FrZ I' I1 ∧ I' 230 = I1 230 ∧ I' 229 7 = nI 0 ∧ am_X (am_cal (d + 33)) 194 17 [.ref 229, .null] [] (mS I1 J) = some (some (.int (Int32.ofInt (-100) - nI p)), mS I' J)
    | .inr cl' => ∃ I', FrZ I' I1 ∧ I' 230 = lawS (I1 230) cl' ∧ I' 229 7 = nI 0 ∧ am_X (am_cal (d + 33)) 194 17 [.ref 229, .null] [] (mS I1 J) = some (some (.int (nI cl'.length)), mS I' J) := by
  have hn := hT.1
  intro f
  induction f with
  | zero => intro t cl I1 hf hc; have := hc.1; omega
  | succ f ih =>
    intro t cl I1 hf hc hr hX hL ht hLw hw h10
    have hc10 := hc.1
    have u1 := ht.1.1
    have u2 := ht.1.2.1
    have e0 : am_X (am_cal (d + 33)) 194 17 [.ref 229, .null] [] (mS I1 J) = _ := e_194_17
    simp only [lc_229, hw, z_t, hL.1, hX.1, n_lt (show t.1 < 2 ^ 31 by omega) (show n < 2 ^ 31 by omega), lc_229, lr_229_0, lc_230, ll_230, bq_s, mS_c, mS_l, mS_r, mS_i, mS_j, mS_pi, mS_pj, lt_st, bq_s, bV_s, bI_s, bJ_s, bA_s, nz_0, nc_0, nz_1, nc_1, nz_2, nc_2, nz_3, nc_3, nz_4, nc_4, nz_5, nc_5, nz_6, nc_6, nz_7, nc_7, nz_8, nc_8, nz_9, nc_9, nz_10, nc_10, nz_11, nc_11, nz_12, nc_12, if_true, if_false, eq_self, true_and, and_true, false_or, or_false, true_or, or_true, false_and, and_false, not_true, not_false_eq_true, ne_eq, ite_self, ite_not, ↓reduceIte] at e0
    rw [lwU_s]
    by_cases htn : t.1 < n
    · rw [if_pos htn]
      rw [if_pos htn] at e0
      have h193 := m193 (d := d) (J := J) hT hX hL ht hLw hw h10 hc10 hr
      cases hcl : clN T n cl.length t with
      | inl p =>
        rw [hcl] at h193
        obtain ⟨I2, a1, a2, a3, a4, a5⟩ := h193
        rw [a5, bV_s] at e0
        have e1 : am_X (am_cal (d + 33)) 194 17 [.ref 229, .null] [] (mS I2 J) = some (some (.int (Int32.ofInt (-100) - nI p)), mS (wI I2 229 7 (nI 0)) J) := by
          have g13 : wI I2 229 7 (nI 0) 229 13 = nI 1 := by rw [wI_nk (by decide)]; exact a4
          have g8 : wI I2 229 7 (nI 0) 229 8 = nI p := by rw [wI_nk (by decide)]; exact a3
          rw [e_194_17]
          simp only [lc_229, a4, z_f, g13, g8, lc_229, lr_229_0, lc_230, ll_230, bq_s, mS_c, mS_l, mS_r, mS_i, mS_j, mS_pi, mS_pj, lt_st, bq_s, bV_s, bI_s, bJ_s, bA_s, nz_0, nc_0, nz_1, nc_1, nz_2, nc_2, nz_3, nc_3, nz_4, nc_4, nz_5, nc_5, nz_6, nc_6, nz_7, nc_7, nz_8, nc_8, nz_9, nc_9, nz_10, nc_10, nz_11, nc_11, nz_12, nc_12, if_true, if_false, eq_self, true_and, and_true, false_or, or_false, true_or, or_true, false_and, and_false, not_true, not_false_eq_true, ne_eq, ite_self, ite_not, ↓reduceIte]
        refine ⟨_, ⟨fun a h1 h2 h3 h4 => by rw [wI_F1 a h1]; exact a1.1 a h1 h3 h4, fun j hj => by rw [wI_nk (by omega)]; exact a1.2 j (by omega)⟩, by rw [wI_F1 230 (by decide)]; exact a1.1 230 (by decide) (by decide) (by decide), wI_eq, e0.trans e1⟩
      | inr r =>
        obtain ⟨t2, c⟩ := r
        rw [hcl] at h193
        obtain ⟨I2, a1, a2, a3, a4, a5, a6⟩ := h193
        obtain ⟨g1, g2, g3, g4⟩ := cl_ok ht hcl
        rw [a6, bV_s] at e0
        have hlen : (cl ++ [c]).length = cl.length + 1 := by rw [List.length_append]; rfl
        have := ih t2 (cl ++ [c]) I2 (by omega) (okCs_a hc g4 g3) (by rw [eMs_a]; omega) (hX.fy a1) a2 g1 a3 a4 a5
        rw [← e0] at this
        have f230 : I2 230 = I1 230 := a1.1 230 (by decide) (by decide) (by decide)
        show match lwU T n f t2 (cl ++ [c]) with
          | .inl p => ∃ I', FrZ I' I1 ∧ I' 230 = I1 230 ∧ I' 229 7 = nI 0 ∧ am_X (am_cal (d + 33)) 194 17 [.ref 229, .null] [] (mS I1 J) = some (some (.int (Int32.ofInt (-100) - nI p)), mS I' J)
          | .inr cl' => ∃ I', FrZ I' I1 ∧ I' 230 = lawS (I1 230) cl' ∧ I' 229 7 = nI 0 ∧ am_X (am_cal (d + 33)) 194 17 [.ref 229, .null] [] (mS I1 J) = some (some (.int (nI cl'.length)), mS I' J)
        cases hl : lwU T n f t2 (cl ++ [c]) with
        | inl p =>
          rw [hl] at this
          obtain ⟨I3, b1, b2, b3, b4⟩ := this
          exact ⟨I3, ⟨fun a h1 h2 h3 h4 => by rw [b1.1 a h1 h2 h3 h4]; exact a1.1 a h1 h3 h4, fun j hj => by rw [b1.2 j hj]; exact a1.2 j (by omega)⟩, b2.trans f230, b3, b4⟩
        | inr cl' =>
          rw [hl] at this
          obtain ⟨I3, b1, b2, b3, b4⟩ := this
          rw [f230] at b2
          exact ⟨I3, ⟨fun a h1 h2 h3 h4 => by rw [b1.1 a h1 h2 h3 h4]; exact a1.1 a h1 h3 h4, fun j hj => by rw [b1.2 j hj]; exact a1.2 j (by omega)⟩, b2, b3, b4⟩
    · rw [if_neg htn]
      rw [if_neg htn] at e0
      obtain ⟨l1, l2, l3⟩ := hLw
      have g13 : wI I1 229 7 (nI 0) 229 13 = nI 0 := by rw [wI_nk (by decide)]; exact hw
      have g12 : wI I1 229 7 (nI 0) 229 12 = nI cl.length := by rw [wI_nk (by decide)]; exact l1
      have g11 : ∀ v : Int32, wI (wI I1 229 7 (nI 0)) 230 6 v 229 11 = nI (eMs (opsOf cl)).length := fun v => by rw [wI_ne (by decide), wI_nk (by decide)]; exact l2.1
      simp only [lc_229, g13, z_t, lr_229_0, lc_230, ll_230, n_lef (show 6 < 546 by decide), n_lef (show 8 < 546 by decide), nz_6, nc_6, nz_8, nc_8, g12, g11, lc_229, lr_229_0, lc_230, ll_230, bq_s, mS_c, mS_l, mS_r, mS_i, mS_j, mS_pi, mS_pj, lt_st, bq_s, bV_s, bI_s, bJ_s, bA_s, nz_0, nc_0, nz_1, nc_1, nz_2, nc_2, nz_3, nc_3, nz_4, nc_4, nz_5, nc_5, nz_6, nc_6, nz_7, nc_7, nz_8, nc_8, nz_9, nc_9, nz_10, nc_10, nz_11, nc_11, nz_12, nc_12, if_true, if_false, eq_self, true_and, and_true, false_or, or_false, true_or, or_true, false_and, and_false, not_true, not_false_eq_true, ne_eq, ite_self, ite_not, ↓reduceIte] at e0
      generalize hI2 : wI (wI (wI I1 229 7 (nI 0)) 230 6 (nI cl.length)) 230 8 (nI (eMs (opsOf cl)).length) = I2 at e0
      have o2 : ∀ a, a ≠ 229 → a ≠ 230 → I2 a = I1 a := fun a h h' => by rw [← hI2, wI_F1 a h', wI_F1 a h', wI_F1 a h]
      have o229 : ∀ j, j ≠ 7 → I2 229 j = I1 229 j := fun j hj => by rw [← hI2, wI_ne (by decide), wI_ne (by decide), wI_nk hj]
      obtain ⟨I3, b1, b2, b3⟩ := e194b (d := d + 33) (J := J) (I := I2) (s := I1 230) hc10 (show (eMs (opsOf cl)).length ≤ 200 by omega) (by rw [o229 11 (by decide)]; exact l2.1) (by rw [o229 12 (by decide)]; exact l1) (fun j hj => by rw [o2 234 (by decide) (by decide)]; exact l2.2 j hj) (fun i hi => by unfold ClM; rw [o2 235 (by decide) (by decide)]; exact l3 i hi) 50 0 I2 rfl (fun _ _ => rfl) (fun j hj => by
        rw [← hI2]
        by_cases e8 : j = 8
        · subst e8
          rw [wI_eq]
          unfold lawS
          rw [if_neg (by omega), if_neg (by omega), if_neg (by decide), if_pos rfl]
        · rw [wI_nk e8]
          by_cases e6 : j = 6
          · subst e6; rw [wI_eq, lw_6]
          · rw [wI_nk e6, wI_ne (by decide), lw_o (by omega) e6 e8])
      refine ⟨I3, ⟨fun a h1 h2 h3 h4 => by rw [b1 a h2, o2 a h1 h2], fun j hj => by rw [b1 229 (by decide), o229 j (by omega)]⟩, b2, ?_, e0.trans b3⟩
      rw [b1 229 (by decide), ← hI2, wI_ne (by decide), wI_ne (by decide), wI_eq]
theorem m194 (hT : okT T n) (hC : TpM I T n) : ∃ I', FrZ I' I ∧ I' 230 = tr_law (I 230) T n ∧ I' 229 7 = nI 0 ∧ am_cal (d + 34) 194 [.ref 229] (mS I J) = some (some (.int (v_law T n)), mS I' J) := by
  have hn := hT.1
  obtain ⟨h7, hX⟩ := hC
  have e0 : am_cal (d + 34) 194 [.ref 229] (mS I J) = _ := c_194 lc_229
  simp only [lc_229, lc_229, lr_229_0, lc_230, ll_230, bq_s, mS_c, mS_l, mS_r, mS_i, mS_j, mS_pi, mS_pj, lt_st, bq_s, bV_s, bI_s, bJ_s, bA_s, nz_0, nc_0, nz_1, nc_1, nz_2, nc_2, nz_3, nc_3, nz_4, nc_4, nz_5, nc_5, nz_6, nc_6, nz_7, nc_7, nz_8, nc_8, nz_9, nc_9, nz_10, nc_10, nz_11, nc_11, nz_12, nc_12, if_true, if_false, eq_self, true_and, and_true, false_or, or_false, true_or, or_true, false_and, and_false, not_true, not_false_eq_true, ne_eq, ite_self, ite_not, ↓reduceIte] at e0
  generalize hI0 : wI (wI (wI (wI (wI I 229 9 (nI 0)) 229 10 (nI 0)) 229 11 (nI 0)) 229 12 (nI 0)) 229 13 (nI 0) = I0 at e0
  have o0 : ∀ a, a ≠ 229 → I0 a = I a := fun a h => by rw [← hI0, wI_F1 a h, wI_F1 a h, wI_F1 a h, wI_F1 a h, wI_F1 a h]
  have o229 : ∀ j, (j < 9 ∨ 13 < j) → I0 229 j = I 229 j := fun j hj => by rw [← hI0, wI_nk (by omega), wI_nk (by omega), wI_nk (by omega), wI_nk (by omega), wI_nk (by omega)]
  have g9 : I0 229 9 = nI 0 := by rw [← hI0, wI_nk (by decide), wI_nk (by decide), wI_nk (by decide), wI_nk (by decide), wI_eq]
  have g10 : I0 229 10 = nI 0 := by rw [← hI0, wI_nk (by decide), wI_nk (by decide), wI_nk (by decide), wI_eq]
  have g11 : I0 229 11 = nI 0 := by rw [← hI0, wI_nk (by decide), wI_nk (by decide), wI_eq]
  have g12 : I0 229 12 = nI 0 := by rw [← hI0, wI_nk (by decide), wI_eq]
  have g13 : I0 229 13 = nI 0 := by rw [← hI0, wI_eq]
  have hX0 : TxM I0 T n := ⟨by rw [o229 7 (by omega)]; exact h7, fun k hk => by rw [o0 233 (by decide)]; exact hX k hk⟩
  obtain ⟨I1, a1, a2, a3⟩ := m181 (d := d + 30) (J := J) hT hX0 g9 (Nat.zero_le n)
  rw [show d + 33 = d + 30 + 3 from rfl, a3, bV_s] at e0
  have hLw : LwM I1 [] := ⟨by rw [a1.2 12 (by decide) (by decide)]; exact g12, ⟨by rw [a1.2 11 (by decide) (by decide)]; exact g11, fun j hj => absurd hj (Nat.not_lt_zero j)⟩, fun i hi => absurd hi (Nat.not_lt_zero i)⟩
  have hh := e194 (d := d) (J := J) hT 11 (lx T n 0) [] I1 rfl ⟨Nat.zero_le _, fun c h => by cases h⟩ (Nat.zero_le _) (hX0.fn a1) a2 (lx_q (Nat.zero_le n)) hLw (by rw [a1.2 13 (by decide) (by decide)]; exact g13) (by rw [a1.2 10 (by decide) (by decide)]; exact g10)
  have f230 : I1 230 = I 230 := by rw [a1.1 230 (by decide), o0 230 (by decide)]
  unfold tr_law v_law
  cases hl : lawN T n with
  | inl p =>
    rw [show lwU T n 11 (lx T n 0) [] = _ from hl] at hh
    obtain ⟨I2, b1, b2, b3, b4⟩ := hh
    exact ⟨I2, ⟨fun a h1 h2 h3 h4 => by rw [b1.1 a h1 h2 h3 h4, a1.1 a h1, o0 a h1], fun j hj => by rw [b1.2 j hj, a1.2 j (by omega) (by omega), o229 j (by omega)]⟩, b2.trans f230, b3, e0.trans b4⟩
  | inr cl =>
    rw [show lwU T n 11 (lx T n 0) [] = _ from hl] at hh
    obtain ⟨I2, b1, b2, b3, b4⟩ := hh
    rw [f230] at b2
    exact ⟨I2, ⟨fun a h1 h2 h3 h4 => by rw [b1.1 a h1 h2 h3 h4, a1.1 a h1, o0 a h1], fun j hj => by rw [b1.2 j hj, a1.2 j (by omega) (by omega), o229 j (by omega)]⟩, b2, b3, e0.trans b4⟩
end J15s
