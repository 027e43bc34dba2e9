/-! ===== pays: the model ===== -/
section I14s
variable {I I' : mI} {J : mJ} {s t : Rw} {d k n q p i c m b l : Nat} {a x y z u v w : Int32}
theorem m234 : am_cal (d + 1) 234 [.ref 229] (mS I J) = some (none, mS (cpA I 230 232 546) J) := by
  have lp : ∀ n k, k + n = 546 → am_X (am_cal d) 234 2 [.ref 229, .int (nI k)] [] (mS (cpA I 230 232 k) J) = some (none, mS (cpA I 230 232 546) J) := by
    intro n
    induction n with
    | zero =>
      intro k hk
      have : k = 546 := by omega
      subst this
      rw [e_234_2]
      simp only [n_lt (show 546 < 2 ^ 31 by decide) (show 546 < 2 ^ 31 by decide), Nat.lt_irrefl, lc_229, lr_229_0, lc_230, ll_230, bq_s, mS_c, mS_l, mS_r, mS_i, mS_j, mS_pi, mS_pj, lt_st, bq_s, bV_s, bI_s, bJ_s, bA_s, nz_0, nc_0, nz_1, nc_1, nz_2, nc_2, nz_3, nc_3, nz_4, nc_4, nz_5, nc_5, nz_6, nc_6, nz_7, nc_7, nz_8, nc_8, nz_9, nc_9, nz_10, nc_10, nz_11, nc_11, nz_12, nc_12, if_true, if_false, eq_self, true_and, and_true, false_or, or_false, true_or, or_true, false_and, and_false, not_true, not_false_eq_true, ne_eq, ite_self, ite_not, ↓reduceIte]
    | succ n ih =>
      intro k hk
      have i0c : (nI (k)).toNatClampNeg = k := nI_clamp (by omega)
      have i0z : (nI (k) < 0) = False := n_ge0 (by omega)
      have i0l : (546 ≤ k) = False := n_lef (by omega)
      have hlt : (k < 546) = True := eq_true (by omega)
      rw [e_234_2]
      simp only [n_lt (show k < 2 ^ 31 by omega) (show 546 < 2 ^ 31 by decide), hlt, lc_229, lr_229_0, lr_229_2, lc_230, ll_230, lc_232, ll_232, i0c, i0z, i0l, cpA_s (show 230 ≠ 232 by decide), nI_add, lc_229, lr_229_0, lc_230, ll_230, bq_s, mS_c, mS_l, mS_r, mS_i, mS_j, mS_pi, mS_pj, lt_st, bq_s, bV_s, bI_s, bJ_s, bA_s, nz_0, nc_0, nz_1, nc_1, nz_2, nc_2, nz_3, nc_3, nz_4, nc_4, nz_5, nc_5, nz_6, nc_6, nz_7, nc_7, nz_8, nc_8, nz_9, nc_9, nz_10, nc_10, nz_11, nc_11, nz_12, nc_12, if_true, if_false, eq_self, true_and, and_true, false_or, or_false, true_or, or_true, false_and, and_false, not_true, not_false_eq_true, ne_eq, ite_self, ite_not, ↓reduceIte]
      exact ih (k + 1) (by omega)
  rw [c_234 lc_229]
  have := lp 546 0 (by omega)
  rw [cpA_0] at this
  exact this
theorem m235 : am_cal (d + 1) 235 [.ref 229] (mS I J) = some (none, mS (cpA I 232 230 546) J) := by
  have lp : ∀ n k, k + n = 546 → am_X (am_cal d) 235 2 [.ref 229, .int (nI k)] [] (mS (cpA I 232 230 k) J) = some (none, mS (cpA I 232 230 546) J) := by
    intro n
    induction n with
    | zero =>
      intro k hk
      have : k = 546 := by omega
      subst this
      rw [e_235_2]
      simp only [n_lt (show 546 < 2 ^ 31 by decide) (show 546 < 2 ^ 31 by decide), Nat.lt_irrefl, lc_229, lr_229_0, lc_230, ll_230, bq_s, mS_c, mS_l, mS_r, mS_i, mS_j, mS_pi, mS_pj, lt_st, bq_s, bV_s, bI_s, bJ_s, bA_s, nz_0, nc_0, nz_1, nc_1, nz_2, nc_2, nz_3, nc_3, nz_4, nc_4, nz_5, nc_5, nz_6, nc_6, nz_7, nc_7, nz_8, nc_8, nz_9, nc_9, nz_10, nc_10, nz_11, nc_11, nz_12, nc_12, if_true, if_false, eq_self, true_and, and_true, false_or, or_false, true_or, or_true, false_and, and_false, not_true, not_false_eq_true, ne_eq, ite_self, ite_not, ↓reduceIte]
    | succ n ih =>
      intro k hk
      have i0c : (nI (k)).toNatClampNeg = k := nI_clamp (by omega)
      have i0z : (nI (k) < 0) = False := n_ge0 (by omega)
      have i0l : (546 ≤ k) = False := n_lef (by omega)
      have hlt : (k < 546) = True := eq_true (by omega)
      rw [e_235_2]
      simp only [n_lt (show k < 2 ^ 31 by omega) (show 546 < 2 ^ 31 by decide), hlt, lc_229, lr_229_0, lr_229_2, lc_230, ll_230, lc_232, ll_232, i0c, i0z, i0l, cpA_s (show 232 ≠ 230 by decide), nI_add, lc_229, lr_229_0, lc_230, ll_230, bq_s, mS_c, mS_l, mS_r, mS_i, mS_j, mS_pi, mS_pj, lt_st, bq_s, bV_s, bI_s, bJ_s, bA_s, nz_0, nc_0, nz_1, nc_1, nz_2, nc_2, nz_3, nc_3, nz_4, nc_4, nz_5, nc_5, nz_6, nc_6, nz_7, nc_7, nz_8, nc_8, nz_9, nc_9, nz_10, nc_10, nz_11, nc_11, nz_12, nc_12, if_true, if_false, eq_self, true_and, and_true, false_or, or_false, true_or, or_true, false_and, and_false, not_true, not_false_eq_true, ne_eq, ite_self, ite_not, ↓reduceIte]
      exact ih (k + 1) (by omega)
  rw [c_235 lc_229]
  have := lp 546 0 (by omega)
  rw [cpA_0] at this
  exact this
/-- back from the other row -/
theorem cpA_bk (h1 : ∀ j, j < 546 → I 232 j = s j) (h2 : hiS (I 230) s) : cpA I 232 230 546 = wR I s := by
  funext c j
  unfold cpA wR
  by_cases hc : c = 230
  · subst hc
    by_cases hj : j < 546
    · rw [if_pos ⟨rfl, hj⟩, if_pos rfl]; exact h1 j hj
    · rw [if_neg (fun hh => hj hh.2), if_pos rfl]; exact h2 j (by omega)
  · rw [if_neg (fun hh => hc hh.1), if_neg hc]
theorem cp_kd {f k m l : Int32} : cpS s f (nI 2) k m l = cpS s f (nI 2) (nI 0) m l := by
  unfold cpS
  rw [if_neg (show ¬ nI 2 = nI 3 by decide), if_neg (show ¬ nI 2 = nI 3 by decide)]
theorem payS_1 : payS s p 1 = cpS s (nI p) (nI 2) (nI 0) (s 0) (nI 1) := by unfold payS; rw [if_neg (by decide), if_pos rfl]
theorem payS_2 : payS s p 2 = cpS s (nI p) (nI 3) (nI 1) (s 0) (nI 1) := by unfold payS; rw [if_neg (by decide), if_neg (by decide), if_pos rfl]
theorem payS_3 : payS s p 3 = enS s p := by unfold payS; rw [if_neg (by decide), if_neg (by decide), if_neg (by decide), if_pos rfl]
theorem payS_j (h : 3 < k) : payS s p k = joS s p (k - 4) := by unfold payS; rw [if_neg (by omega), if_neg (by omega), if_neg (by omega), if_neg (by omega)]
theorem payQ_l (h : k ≤ 3) : payQ s p k = p := if_pos h
theorem payQ_j (h : 3 < k) : payQ s p k = nP s := if_neg (by omega)
abbrev FPM (I' I : mI) : Prop := ∀ a, a ≠ 230 → a ≠ 236 → a ≠ 237 → a ≠ 238 → I' a = I a
theorem m236 (hW : WF (I 230)) (hp : p < nP (I 230)) (ha : isAw (I 230) p) (hk : k < 4 + nP (I 230)) : ∃ I' J', FPM I' I ∧ hiS (I' 230) (I 230) ∧ GM J' J ∧ ((payO (I 230) p k ∧ am_cal (d + 11) 236 [.ref 229, .int (nI p), .int (nI k)] (mS I J) = some (some (.long (lN (payV (I 230) p k))), mS I' J')) ∨ (¬ payO (I 230) p k ∧ am_cal (d + 11) 236 [.ref 229, .int (nI p), .int (nI k)] (mS I J) = some (some (.long (Int64.ofInt (-1))), mS I' J'))) := by
  have h12 := hW.nP.1
  have w6 : (lN 68719476736 = 0) = False := eq_false (by decide)
  have kn : ∀ j, j < 4 → (nI k = nI j) = (k = j) := fun j hj => n_eq (by omega) (by omega)
  have kz : (nI k = 0) = (k = 0) := by rw [n_i0]; exact kn 0 (by decide)
  have k3l : (nI 3 < nI k) = (3 < k) := n_lt (by decide) (by omega)
  -- what is tried: behind the question of room
  have tot : ∀ (hO : payO (I 230) p k) (I1 : mI), (∀ a, a ≠ 230 → I1 a = I a) → I1 230 = payS (I 230) p k → ∃ I' J', FPM I' I ∧ hiS (I' 230) (I 230) ∧ GM J' J ∧ am_X (am_cal (d + 10)) 236 87 [.ref 229, .null, .null, .null, .int (nI (payQ (I 230) p k))] [] (mS I1 J) = some (some (.long (lN (payV (I 230) p k))), mS I' J') := fun hO I1 f1 f2 => by
    have hWp := pay_W hW hp ha hk hO
    have hq := pay_q hW hp hO
    obtain ⟨I2, J2, b1, b2, b3⟩ := m212 (d := d + 1) (J := J) (I := I1) (p := payQ (I 230) p k) (sort := nI 0) (by rw [f2]; exact hWp) hq
    rw [f2] at b3
    have hb := sum_b hWp (p := payQ (I 230) p k) (sort := nI 0)
    have hdiv : lN (sumU (payS (I 230) p k) (payQ (I 230) p k) (nI 0) (nC (payS (I 230) p k)) * 16384) / lN 68719476736 = lN (payV (I 230) p k) := by
      rw [LN_div (by omega) (by decide) (by decide)]
      have e : (68719476736 : Nat) = WH * 16384 := rfl
      rw [e, Nat.mul_div_mul_right _ _ (by decide)]
      rfl
    refine ⟨I2, J2, fun a h0 h1 h2 h3 => by rw [b1 a h1 h2 h3, f1 a h0], ?_, b2, ?_⟩
    · rw [b1 230 (by decide) (by decide) (by decide), f2]; exact pay_hi hW hp hk hO
    · rw [e_236_87, show d + 10 = d + 1 + 9 from rfl, b3, bJ_s, if_neg (by decide), hdiv]
  have no : ∀ (r : Prop), (¬ payO (I 230) p k) → am_cal (d + 11) 236 [.ref 229, .int (nI p), .int (nI k)] (mS I J) = some (some (.long (Int64.ofInt (-1))), mS I J) → ∃ I' J', FPM I' I ∧ hiS (I' 230) (I 230) ∧ GM J' J ∧ ((payO (I 230) p k ∧ am_cal (d + 11) 236 [.ref 229, .int (nI p), .int (nI k)] (mS I J) = some (some (.long (lN (payV (I 230) p k))), mS I' J')) ∨ (¬ payO (I 230) p k ∧ am_cal (d + 11) 236 [.ref 229, .int (nI p), .int (nI k)] (mS I J) = some (some (.long (Int64.ofInt (-1))), mS I' J'))) := fun _ hn h =>
    ⟨I, J, fun _ _ _ _ _ => rfl, hiS_r, fun _ _ => rfl, Or.inr ⟨hn, h⟩⟩
  have yes : ∀ (hO : payO (I 230) p k) (I1 : mI), (∀ a, a ≠ 230 → I1 a = I a) → I1 230 = payS (I 230) p k → am_cal (d + 11) 236 [.ref 229, .int (nI p), .int (nI k)] (mS I J) = am_X (am_cal (d + 10)) 236 87 [.ref 229, .null, .null, .null, .int (nI (payQ (I 230) p k))] [] (mS I1 J) → ∃ I' J', FPM I' I ∧ hiS (I' 230) (I 230) ∧ GM J' J ∧ ((payO (I 230) p k ∧ am_cal (d + 11) 236 [.ref 229, .int (nI p), .int (nI k)] (mS I J) = some (some (.long (lN (payV (I 230) p k))), mS I' J')) ∨ (¬ payO (I 230) p k ∧ am_cal (d + 11) 236 [.ref 229, .int (nI p), .int (nI k)] (mS I J) = some (some (.long (Int64.ofInt (-1))), mS I' J'))) := fun hO I1 f1 f2 h => by
    obtain ⟨I2, J2, c1, c2, c3, c4⟩ := tot hO I1 f1 f2
    exact ⟨I2, J2, c1, c2, c3, Or.inl ⟨hO, h.trans c4⟩⟩
  have e0 : am_cal (d + 11) 236 [.ref 229, .int (nI p), .int (nI k)] (mS I J) = _ := c_236 lc_229
  rw [show am_cal (d + 10) 161 [.ref 229] (mS I J) = some (some (.int (if okR (I 230) then nI 1 else nI 0)), mS I J) from m161w hW, bI_s] at e0
  have hE2 : I 230 2 = nI (nE (I 230)) := hW.nE.2
  have hE18 := hW.nE.1
  simp only [kz, kn 3 (by decide), lc_229, lr_229_0, lc_230, ll_230, n_lef (show 2 < 546 by decide), hE2, n_lt (show nE (I 230) < 2 ^ 31 by omega) (show 18 < 2 ^ 31 by decide), lc_229, lr_229_0, lc_230, ll_230, bq_s, mS_c, mS_l, mS_r, mS_i, mS_j, mS_pi, mS_pj, lt_st, bq_s, bV_s, bI_s, bJ_s, bA_s, nz_0, nc_0, nz_1, nc_1, nz_2, nc_2, nz_3, nc_3, nz_4, nc_4, nz_5, nc_5, nz_6, nc_6, nz_7, nc_7, nz_8, nc_8, nz_9, nc_9, nz_10, nc_10, nz_11, nc_11, nz_12, nc_12, if_true, if_false, eq_self, true_and, and_true, false_or, or_false, true_or, or_true, false_and, and_false, not_true, not_false_eq_true, ne_eq, ite_self, ite_not, ↓reduceIte] at e0
  have e19 : ∀ (t : Int32), am_X (am_cal (d + 10)) 236 19 [.ref 229, .int (nI p), .int (nI k), .null, .null] [.int t] (mS I J) = _ := fun t => e_236_19
  have e38 : am_X (am_cal (d + 10)) 236 38 [.ref 229, .int (nI p), .int (nI k), .null, .null] [] (mS I J) = _ := e_236_38
  simp only [k3l] at e19
  simp only [kn 1 (by decide), kn 2 (by decide), kn 3 (by decide), k3l, lc_229, lr_229_0, lc_230, ll_230, n_lef (show 0 < 546 by decide), lc_229, lr_229_0, lc_230, ll_230, bq_s, mS_c, mS_l, mS_r, mS_i, mS_j, mS_pi, mS_pj, lt_st, bq_s, bV_s, bI_s, bJ_s, bA_s, nz_0, nc_0, nz_1, nc_1, nz_2, nc_2, nz_3, nc_3, nz_4, nc_4, nz_5, nc_5, nz_6, nc_6, nz_7, nc_7, nz_8, nc_8, nz_9, nc_9, nz_10, nc_10, nz_11, nc_11, nz_12, nc_12, if_true, if_false, eq_self, true_and, and_true, false_or, or_false, true_or, or_true, false_and, and_false, not_true, not_false_eq_true, ne_eq, ite_self, ite_not, ↓reduceIte] at e38
  have hd0 : I 230 0 = (I 230) 0 := rfl
  by_cases k0 : k = 0
  · subst k0
    have hO : payO (I 230) p 0 := ⟨Or.inl rfl, fun h => by omega⟩
    refine yes hO I (fun _ _ => rfl) (by unfold payS; rw [if_pos rfl]) ?_
    rw [e0, if_pos rfl, if_pos rfl, e19, if_neg (by decide), if_neg (by decide), e38, if_neg (by decide), if_neg (by decide), if_neg (by decide), if_neg (by decide)]
    unfold payQ
    rw [if_pos (by decide)]
  · rw [if_neg k0] at e0
    by_cases k3 : k = 3
    · subst k3
      rw [if_pos rfl, if_neg k0] at e0
      by_cases hE : nE (I 230) < 18
      · rw [if_pos hE, e19, if_neg (by decide), if_neg (by decide), e38, if_neg (by decide), if_neg (by decide), if_pos rfl, show d + 10 = d + 8 + 2 from rfl, m169 hW hE (by omega), bV_s] at e0
        have hO : payO (I 230) p 3 := ⟨Or.inr (Or.inl ⟨rfl, hE⟩), fun h => by omega⟩
        refine yes hO (wR I (payS (I 230) p 3)) (fun a h => wR_n h) wR_r ?_
        rw [e0, payQ_l (by decide), payS_3]
      · rw [if_neg hE, e19, if_pos nI_0] at e0
        exact no True (fun h => by rcases h.1 with e | e | e; omega; exact hE e.2; exact e.1 rfl) e0
    · rw [if_neg k3] at e0
      by_cases ho : okR (I 230)
      · rw [if_pos ho, e19, if_neg (by decide)] at e0
        by_cases k4 : 3 < k
        · rw [if_pos k4, n_sub (show 4 ≤ k by omega)] at e0
          simp only [n_eq (show k - 4 < 2 ^ 31 by omega) (show p < 2 ^ 31 by omega)] at e0
          by_cases kp : k - 4 = p
          · rw [if_pos kp] at e0
            exact no True (fun h => (h.2 k4).1 kp) e0
          · rw [if_neg kp, show d + 10 = d + 8 + 2 from rfl, m154 (show k - 4 < 12 by omega), bI_s] at e0
            by_cases hq : isAw (I 230) (k - 4)
            · rw [if_pos hq, if_neg (by decide), show d + 8 + 2 = d + 10 from rfl, e38, if_neg (by omega), if_neg (by omega), if_neg k3, if_pos k4, n_sub (show 4 ≤ k by omega), show d + 10 = d + 7 + 3 from rfl, m167 hW ho (by omega) (by omega), bI_s] at e0
              have hO : payO (I 230) p k := ⟨Or.inr (Or.inr ⟨k3, ho⟩), fun _ => ⟨kp, hq⟩⟩
              refine yes hO (wR I (payS (I 230) p k)) (fun a h => wR_n h) wR_r ?_
              rw [e0, payQ_j k4, payS_j k4]
            · rw [if_neg hq, if_pos nI_0] at e0
              exact no True (fun h => hq (h.2 k4).2) e0
        · rw [if_neg k4, e38] at e0
          have hO : payO (I 230) p k := ⟨Or.inr (Or.inr ⟨k3, ho⟩), fun h => by omega⟩
          by_cases k1 : k = 1
          · subst k1
            rw [if_pos rfl, show d + 10 = d + 7 + 3 from rfl, m164 hW ho, bI_s] at e0
            refine yes hO (wR I (payS (I 230) p 1)) (fun a h => wR_n h) wR_r ?_
            rw [e0, payQ_l (by decide), payS_1, cp_kd]
          · have k2 : k = 2 := by omega
            subst k2
            rw [if_neg (by decide), if_pos rfl, show d + 10 = d + 7 + 3 from rfl, m164 hW ho, bI_s] at e0
            refine yes hO (wR I (payS (I 230) p 2)) (fun a h => wR_n h) wR_r ?_
            rw [e0, payQ_l (by decide), payS_2]
      · rw [if_neg ho, e19, if_pos nI_0] at e0
        exact no True (fun h => by rcases h.1 with e | e | e; exact k0 e; exact k3 e.1; exact ho e.2) e0
theorem e237 (hs : I 230 = s) (hW : WF s) (hp : p < nP s) (ha : isAw s p) : ∀ n k b l (I1 : mI) (J1 : mJ), k + n = 4 + nP s → b < 2 ^ 31 → l < 2 ^ 60 → FPM I1 I → I1 230 = s → (∀ j, j < 546 → I1 232 j = s j) → ∃ I' J', FPM I' I ∧ I' 230 = s ∧ GM J' J1 ∧ am_X (am_cal (d + 11)) 237 31 [.ref 229, .int (nI p), .int y, .int (nI (nP s)), .int (nI b), .long (lN l), .null, .int (nI k), .null, .null] [] (mS I1 J1) = some (some (.long (if y = 0 then lN (payU s p n k b l).1 else lN (payU s p n k b l).2)), mS I' J') := by
  have h12 := hW.nP.1
  intro n
  induction n with
  | zero =>
    intro k b l I1 J1 hk hb hl f1 f2 f3
    refine ⟨I1, J1, f1, f2, fun _ _ => rfl, ?_⟩
    rw [e_237_31]
    simp only [nI_add, n_lt (show k < 2 ^ 31 by omega) (show 4 + nP s < 2 ^ 31 by omega), eq_false (show ¬ k < 4 + nP s by omega), LN_w hb, rj_ite, payU, lc_229, lr_229_0, lc_230, ll_230, bq_s, mS_c, mS_l, mS_r, mS_i, mS_j, mS_pi, mS_pj, lt_st, bq_s, bV_s, bI_s, bJ_s, bA_s, nz_0, nc_0, nz_1, nc_1, nz_2, nc_2, nz_3, nc_3, nz_4, nc_4, nz_5, nc_5, nz_6, nc_6, nz_7, nc_7, nz_8, nc_8, nz_9, nc_9, nz_10, nc_10, nz_11, nc_11, nz_12, nc_12, if_true, if_false, eq_self, true_and, and_true, false_or, or_false, true_or, or_true, false_and, and_false, not_true, not_false_eq_true, ne_eq, ite_self, ite_not, ↓reduceIte]
  | succ n ih =>
    intro k b l I1 J1 hk hb hl f1 f2 f3
    have e0 : am_X (am_cal (d + 11)) 237 31 [.ref 229, .int (nI p), .int y, .int (nI (nP s)), .int (nI b), .long (lN l), .null, .int (nI k), .null, .null] [] (mS I1 J1) = _ := e_237_31
    simp only [nI_add, n_lt (show k < 2 ^ 31 by omega) (show 4 + nP s < 2 ^ 31 by omega), eq_true (show k < 4 + nP s by omega), if_true] at e0
    obtain ⟨I2, J2, b1, b2, b3, b4⟩ := m236 (I := I1) (d := d) (J := J1) (p := p) (k := k) (by rw [f2]; exact hW) (by rw [f2]; exact hp) (by rw [f2]; exact ha) (by rw [f2]; omega)
    rw [f2] at b2 b4
    have bk : cpA I2 232 230 546 = wR I2 s := cpA_bk (fun j hj => by rw [b1 232 (by decide) (by decide) (by decide) (by decide)]; exact f3 j hj) b2
    have g1 : FPM (wR I2 s) I := fun a h0 h1 h2 h3 => by rw [wR_n h0, b1 a h0 h1 h2 h3, f1 a h0 h1 h2 h3]
    have g2 : wR I2 s 230 = s := wR_r
    have g3 : ∀ j, j < 546 → wR I2 s 232 j = s j := fun j hj => by rw [wR_n (by decide), b1 232 (by decide) (by decide) (by decide) (by decide)]; exact f3 j hj
    have hn1 : (lg_cmp (Int64.ofInt (-1)) (lN 0) < 0) = True := by rw [l_lt]; exact eq_true (by decide)
    rcases b4 with ⟨ho, b5⟩ | ⟨ho, b5⟩
    · have hWp := pay_W hW hp ha (show k < 4 + nP s by omega) ho
      have hb' := sum_b hWp (p := payQ s p k) (sort := nI 0)
      have hV : payV s p k < 2 ^ 60 := Nat.lt_of_le_of_lt (Nat.div_le_self _ _) (by omega)
      rw [b5, bJ_s, show d + 11 = d + 10 + 1 from rfl, m235, bV_s, bk] at e0
      simp only [l_lt, LN_lt (show payV s p k < 2 ^ 63 by omega) (show 0 < 2 ^ 63 by decide), LN_lt (show l < 2 ^ 63 by omega) (show 0 < 2 ^ 63 by decide), LN_lt (show payV s p k < 2 ^ 63 by omega) (show l < 2 ^ 63 by omega), eq_false (Nat.not_lt_zero _), if_false] at e0
      by_cases hlt : payV s p k < l
      · rw [if_pos hlt] at e0
        obtain ⟨I4, J4, d1, d2, d3, d4⟩ := ih (k + 1) k (payV s p k) (wR I2 s) J2 (by omega) (by omega) hV g1 g2 g3
        exact ⟨I4, J4, d1, d2, fun a h => by rw [d3 a h, b3 a h], by rw [payU_t ⟨ho, hlt⟩]; exact e0.trans d4⟩
      · rw [if_neg hlt] at e0
        obtain ⟨I4, J4, d1, d2, d3, d4⟩ := ih (k + 1) b l (wR I2 s) J2 (by omega) hb hl g1 g2 g3
        exact ⟨I4, J4, d1, d2, fun a h => by rw [d3 a h, b3 a h], by rw [payU_f (fun h => hlt h.2)]; exact e0.trans d4⟩
    · rw [b5, bJ_s, show d + 11 = d + 10 + 1 from rfl, m235, bV_s, bk] at e0
      simp only [hn1, if_true] at e0
      obtain ⟨I4, J4, d1, d2, d3, d4⟩ := ih (k + 1) b l (wR I2 s) J2 (by omega) hb hl g1 g2 g3
      exact ⟨I4, J4, d1, d2, fun a h => by rw [d3 a h, b3 a h], by rw [payU_f (fun h => ho h.1)]; exact e0.trans d4⟩
abbrev FYM (I' I : mI) : Prop := ∀ a, a ≠ 232 → a ≠ 236 → a ≠ 237 → a ≠ 238 → I' a = I a
theorem m237 (hW : WF (I 230)) : ∃ I' J', FYM I' I ∧ GM J' J ∧ am_cal (d + 12) 237 [.ref 229, .int x, .int y] (mS I J) = some (some (.long (v_pays (I 230) x y)), mS I' J') := by
  have h12 := hW.nP.1
  have e0 : am_cal (d + 12) 237 [.ref 229, .int x, .int y] (mS I J) = _ := c_237 lc_229
  rw [show d + 11 = d + 9 + 2 from rfl, m153 hW, bI_s] at e0
  unfold v_pays
  by_cases hx : isP (I 230) x
  · rw [if_pos hx, if_neg (by decide), m151 (by decide) (by decide), bI_s] at e0
    by_cases hy : ¬ y < nI 0 ∧ ¬ nI 1 < y
    · rw [if_pos hy, if_neg (by decide)] at e0
      rw [if_pos (show isP (I 230) x ∧ ¬ y < 0 ∧ ¬ nI 1 < y from ⟨hx, by rw [n_i0]; exact hy⟩)]
      obtain ⟨p, hp, rfl⟩ := isP_n hW hx
      have pc : (nI p).toNatClampNeg = p := nI_clamp (by omega)
      rw [m154 (show p < 12 by omega), bI_s] at e0
      by_cases ha : isAw (I 230) p
      · rw [if_pos ha, if_neg (by decide), show d + 9 + 2 = d + 10 + 1 from rfl, m234, bV_s] at e0
        rw [pc, if_pos ha]
        have fc : FPM (cpA I 230 232 546) (cpA I 230 232 546) := fun _ _ _ _ _ => rfl
        have c0 : cpA I 230 232 546 230 = I 230 := cpA_n (by decide)
        have h9 : cpA I 230 232 546 230 1 = nI (nP (I 230)) := by rw [c0]; exact hW.nP.2
        simp only [lc_229, lr_229_0, lc_230, ll_230, n_lef (show 1 < 546 by decide), h9, lc_229, lr_229_0, lc_230, ll_230, bq_s, mS_c, mS_l, mS_r, mS_i, mS_j, mS_pi, mS_pj, lt_st, bq_s, bV_s, bI_s, bJ_s, bA_s, nz_0, nc_0, nz_1, nc_1, nz_2, nc_2, nz_3, nc_3, nz_4, nc_4, nz_5, nc_5, nz_6, nc_6, nz_7, nc_7, nz_8, nc_8, nz_9, nc_9, nz_10, nc_10, nz_11, nc_11, nz_12, nc_12, if_true, if_false, eq_self, true_and, and_true, false_or, or_false, true_or, or_true, false_and, and_false, not_true, not_false_eq_true, ne_eq, ite_self, ite_not, ↓reduceIte] at e0
        have c2 : ∀ j, j < 546 → cpA I 230 232 546 232 j = I 230 j := fun j hj => cpA_e hj
        -- the first choice
        have e1 : am_X (am_cal (d + 10 + 1)) 237 31 [.ref 229, .int (nI p), .int y, .int (nI (nP (I 230))), .int (nI 0), .long (Int64.ofInt (-1)), .null, .int (nI 0), .null, .null] [] (mS (cpA I 230 232 546) J) = _ := e_237_31
        simp only [nI_add, n_lt (show 0 < 2 ^ 31 by omega) (show 4 + nP (I 230) < 2 ^ 31 by omega), eq_true (show 0 < 4 + nP (I 230) by omega), if_true] at e1
        obtain ⟨I2, J2, b1, b2, b3, b4⟩ := m236 (I := cpA I 230 232 546) (d := d) (J := J) (p := p) (k := 0) (by rw [c0]; exact hW) (by rw [c0]; exact hp) (by rw [c0]; exact ha) (by rw [c0]; omega)
        rw [c0] at b2 b4
        have hO : payO (I 230) p 0 := ⟨Or.inl rfl, fun h => by omega⟩
        have b5 : am_cal (d + 11) 236 [.ref 229, .int (nI p), .int (nI 0)] (mS (cpA I 230 232 546) J) = some (some (.long (lN (payV (I 230) p 0))), mS I2 J2) := by
          rcases b4 with h | h
          · exact h.2
          · exact absurd hO h.1
        have bk : cpA I2 232 230 546 = wR I2 (I 230) := cpA_bk (fun j hj => by rw [b1 232 (by decide) (by decide) (by decide) (by decide)]; exact c2 j hj) b2
        have hb' := sum_b hW (p := p) (sort := nI 0)
        have hV : payV (I 230) p 0 < 2 ^ 60 := Nat.lt_of_le_of_lt (Nat.div_le_self _ _) (by show sumU (I 230) p (nI 0) (nC (I 230)) < _; omega)
        have hn1 : (lg_cmp (Int64.ofInt (-1)) (lN 0) < 0) = True := by rw [l_lt]; exact eq_true (by decide)
        rw [show d + 10 + 1 = d + 11 from rfl, b5, bJ_s, show d + 11 = d + 10 + 1 from rfl, m235, bV_s, bk] at e1
        simp only [hn1, if_true, l_lt, LN_lt (show payV (I 230) p 0 < 2 ^ 63 by omega) (show 0 < 2 ^ 63 by decide), eq_false (Nat.not_lt_zero _), if_false] at e1
        have g1 : FPM (wR I2 (I 230)) (cpA I 230 232 546) := fun a h0 h1 h2 h3 => by rw [wR_n h0, b1 a h0 h1 h2 h3]
        have g3 : ∀ j, j < 546 → wR I2 (I 230) 232 j = I 230 j := fun j hj => by rw [wR_n (by decide), b1 232 (by decide) (by decide) (by decide) (by decide)]; exact c2 j hj
        obtain ⟨I4, J4, d1, d2, d3, d4⟩ := e237 (I := cpA I 230 232 546) (d := d) (y := y) (s := I 230) c0 hW hp ha (3 + nP (I 230)) 1 0 (payV (I 230) p 0) (wR I2 (I 230)) J2 (by omega) (by decide) hV g1 wR_r g3
        refine ⟨I4, J4, fun a h0 h1 h2 h3 => ?_, fun a h => by rw [d3 a h, b3 a h], ?_⟩
        · by_cases e : a = 230
          · subst e; rw [d2]
          · rw [d1 a e h1 h2 h3, cpA_n h0]
        · have e1' : am_X (am_cal (d + 10 + 1)) 237 31 [.ref 229, .int (nI p), .int y, .int (nI (nP (I 230))), .int (nI 0), .long (Int64.ofInt (-1)), .null, .int (nI 0), .null, .null] [] (mS (cpA I 230 232 546) J) = am_X (am_cal (d + 11)) 237 31 [.ref 229, .int (nI p), .int y, .int (nI (nP (I 230))), .int (nI 0), .long (lN (payV (I 230) p 0)), .null, .int (nI 1), .null, .null] [] (mS (wR I2 (I 230)) J2) := e1
          exact e0.trans (e1'.trans d4)
      · rw [if_neg ha, if_pos nI_0] at e0
        rw [pc, if_neg ha]
        exact ⟨I, J, fun _ _ _ _ _ => rfl, fun _ _ => rfl, e0⟩
    · rw [if_neg hy, if_pos nI_0] at e0
      rw [if_neg (fun h => hy (by rw [← n_i0]; exact h.2))]
      exact ⟨I, J, fun _ _ _ _ _ => rfl, fun _ _ => rfl, e0⟩
  · rw [if_neg hx, if_pos nI_0] at e0
    rw [if_neg (fun h => hx h.1)]
    exact ⟨I, J, fun _ _ _ _ _ => rfl, fun _ _ => rfl, e0⟩
end I14s
