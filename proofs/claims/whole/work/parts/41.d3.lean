/-! ===== the class: a claim followed to its end; lowest; sums ===== -/
section D3
variable {I : mI} {J : mJ} {w p q e c d l b g r k : Nat} {s : Rw} {x y key day : Int32} {h : Nat → Nat}
theorem k37 (hg : isG g w) (hR : Rep I w s) (hW : WF s) (hc : c < nC s) : ∃ I' J', F1 (w + 12) I' I ∧ G1 (g + 1) J' J ∧ HC J' (g + 1) (shA s c) ∧ am_cal (d + 6) 37 [.ref g, .int (nI c)] (mS I J) = some (none, mS I' J') := by
  have h12 := hW.nP.1
  have hc12 := hW.nC.1
  have h18 := hW.nE.1
  have hw := hg.w
  obtain ⟨_, _, _, p, e, hp, he, e1, e4, hb, h5⟩ := WFcl hW hc
  have i0c : (nI (c)).toNatClampNeg = c := nI_clamp (by omega)
  have i0z : (nI (c) < 0) = False := n_ge0 (by omega)
  have i0l : (12 ≤ c) = False := n_lef (by omega)
  have j0c : (nI (p)).toNatClampNeg = p := nI_clamp (by omega)
  have j0z : (nI (p) < 0) = False := n_ge0 (by omega)
  have j0l : (12 ≤ p) = False := n_lef (by omega)
  have c1 := hR.cF hc (show 1 < 5 by decide)
  have c4 := hR.cF hc (show 4 < 5 by decide)
  rw [e1] at c1
  rw [e4] at c4
  have l8 : ∀ n k (J1 : mJ), k + n = 12 → G1 (g + 1) J1 J → (∀ x, x < k → J1 (g + 1) x = lN 0) → ∃ J', G1 (g + 1) J' J ∧ HC J' (g + 1) (upN (fun _ => 0) p WH) ∧ am_X (am_cal (d + 5)) 37 8 [.ref g, .int (nI c), .ref (w + 43 + c), .int (nI k), .null, .null] [] (mS I J1) = am_X (am_cal (d + 5)) 37 29 [.ref g, .int (nI c), .ref (w + 43 + c), .int (nI e), .null, .null] [] (mS I J') := by
    intro n
    induction n with
    | zero =>
      intro k J1 hk h1 hz
      have hH : HC J1 (g + 1) (fun _ => 0) := fun x hx => hz x (by omega)
      refine ⟨wJ J1 (g + 1) p (lN WH), h1.tr wJ_G1, HC.up hH, ?_⟩
      rw [e_37_8]
      simp only [g_C hg, g_R1 hg, g_C1 hg, g_L1 hg, w_cc hw (show c < 12 by omega), n_lt (show k < 2 ^ 31 by omega) (show 12 < 2 ^ 31 by decide), n_ltf (show 12 ≤ k by omega), c1, c4, j0c, j0z, j0l, show (100 ≤ 102 ∧ 102 < 200) = True from eq_true (by decide), bq_s, mS_c, mS_l, mS_r, mS_i, mS_j, mS_pi, mS_pj, lt_st, bq_s, bV_s, bI_s, bJ_s, bA_s, nz_0, nc_0, nz_1, nc_1, nz_2, nc_2, nz_3, nc_3, nz_4, nc_4, nz_5, nc_5, nz_6, nc_6, nz_7, nc_7, nz_8, nc_8, nz_9, nc_9, nz_10, nc_10, nz_11, nc_11, nz_12, nc_12, if_true, if_false, eq_self, true_and, and_true, false_or, or_false, true_or, or_true, false_and, and_false, not_true, not_false_eq_true, ne_eq, ite_self, ite_not, ↓reduceIte, n_101, n_107, n_11]
      rfl
    | succ n ih =>
      intro k J1 hk h1 hz
      have k0c : (nI (k)).toNatClampNeg = k := nI_clamp (by omega)
      have k0z : (nI (k) < 0) = False := n_ge0 (by omega)
      have k0l : (12 ≤ k) = False := n_lef (by omega)
      obtain ⟨J', a, b, cc⟩ := ih (k + 1) (wJ J1 (g + 1) k (lN 0)) (by omega) (h1.tr wJ_G1) (fun x hx => by
        by_cases e : x = k
        · subst e; rw [wJ_eq]
        · rw [wJ_nk e]; exact hz x (by omega))
      refine ⟨J', a, b, ?_⟩
      rw [e_37_8]
      simp only [g_C hg, g_R1 hg, g_C1 hg, g_L1 hg, n_lt (show k < 2 ^ 31 by omega) (show 12 < 2 ^ 31 by decide), n_ltt (show k < 12 by omega), k0c, k0z, k0l, show (100 ≤ 102 ∧ 102 < 200) = True from eq_true (by decide), nI_add, bq_s, mS_c, mS_l, mS_r, mS_i, mS_j, mS_pi, mS_pj, lt_st, bq_s, bV_s, bI_s, bJ_s, bA_s, nz_0, nc_0, nz_1, nc_1, nz_2, nc_2, nz_3, nc_3, nz_4, nc_4, nz_5, nc_5, nz_6, nc_6, nz_7, nc_7, nz_8, nc_8, nz_9, nc_9, nz_10, nc_10, nz_11, nc_11, nz_12, nc_12, if_true, if_false, eq_self, true_and, and_true, false_or, or_false, true_or, or_true, false_and, and_false, not_true, not_false_eq_true, ne_eq, ite_self, ite_not, ↓reduceIte, n_101, n_107, n_11]
      exact cc
  have l29 : ∀ n e (I1 : mI) (J1 : mJ) (h : Nat → Nat), e + n = nE s → F1 (w + 12) I1 I → G1 (g + 1) J1 J → HC J1 (g + 1) h → shI s e h → ∃ I' J', F1 (w + 12) I' I ∧ G1 (g + 1) J' J ∧ HC J' (g + 1) (shR s c n e h) ∧ am_X (am_cal (d + 5)) 37 29 [.ref g, .int (nI c), .ref (w + 43 + c), .int (nI e), .null, .null] [] (mS I1 J1) = some (none, mS I' J') := by
    intro n
    induction n with
    | zero =>
      intro e I1 J1 h he h1 h2 hH hI
      have hR1 := hR.fr hW (fun a _ _ ha => h1 a ha)
      refine ⟨I1, J1, h1, h2, hH, ?_⟩
      rw [e_37_29]
      simp only [g_C hg, g_R0 hg, w_C hw, hR1.evs, hW.nE.2, n_lt (show e < 2 ^ 31 by omega) (show nE s < 2 ^ 31 by omega), n_ltf (show nE s ≤ e by omega), bq_s, mS_c, mS_l, mS_r, mS_i, mS_j, mS_pi, mS_pj, lt_st, bq_s, bV_s, bI_s, bJ_s, bA_s, nz_0, nc_0, nz_1, nc_1, nz_2, nc_2, nz_3, nc_3, nz_4, nc_4, nz_5, nc_5, nz_6, nc_6, nz_7, nc_7, nz_8, nc_8, nz_9, nc_9, nz_10, nc_10, nz_11, nc_11, nz_12, nc_12, if_true, if_false, eq_self, true_and, and_true, false_or, or_false, true_or, or_true, false_and, and_false, not_true, not_false_eq_true, ne_eq, ite_self, ite_not, ↓reduceIte, n_101, n_107, n_11]
    | succ n ih =>
      intro e I1 J1 h he h1 h2 hH hI
      have hR1 := hR.fr hW (fun a _ _ ha => h1 a ha)
      obtain ⟨I2, J2, a, b, cc, hr⟩ := k37e (d := d) hg hR1 hW hc (show e < nE s by omega) hH hI
      obtain ⟨I3, J3, a3, b3, c3, hr3⟩ := ih (e + 1) I2 J2 (shE s c e h) (by omega) (fun x hx => by rw [a x hx, h1 x hx]) (h2.tr b) cc (shI_step hW (by omega) hI)
      exact ⟨I3, J3, a3, b3, c3, by rw [hr, hr3]⟩
  obtain ⟨J1, a1, b1, r1⟩ := l8 12 0 J (by omega) (fun _ _ => rfl) (fun x hx => by omega)
  obtain ⟨I2, J2, a2, b2', c2, r2⟩ := l29 (nE s - e) e I J1 (upN (fun _ => 0) p WH) (by omega) (fun _ _ => rfl) a1 b1 (shI_0 hW hp hb h5)
  refine ⟨I2, J2, a2, b2', ?_, ?_⟩
  · unfold shA
    rw [e1, e4, nI_clamp (by omega), nI_clamp (by omega)]
    exact c2
  · rw [c_37 (g_C hg)]
    simp only [g_C hg, g_R0 hg, w_C hw, w_R2 hw, w_C3 hw, w_L3 hw, w_rc hw (show c < 12 by omega), i0c, i0z, i0l, bq_s, mS_c, mS_l, mS_r, mS_i, mS_j, mS_pi, mS_pj, lt_st, bq_s, bV_s, bI_s, bJ_s, bA_s, nz_0, nc_0, nz_1, nc_1, nz_2, nc_2, nz_3, nc_3, nz_4, nc_4, nz_5, nc_5, nz_6, nc_6, nz_7, nc_7, nz_8, nc_8, nz_9, nc_9, nz_10, nc_10, nz_11, nc_11, nz_12, nc_12, if_true, if_false, eq_self, true_and, and_true, false_or, or_false, true_or, or_true, false_and, and_false, not_true, not_false_eq_true, ne_eq, ite_self, ite_not, ↓reduceIte, n_101, n_107, n_11]
    rw [r1, r2]
/-- a sum, in lowest terms over 4^11 -/
def lowU : Nat → Nat → Nat → Nat × Nat
  | 0, a, b => (a, b)
  | n + 1, a, b => if a % 2 = 0 then lowU n (a / 2) (b / 2) else (a, b)
theorem lowU_s {n a b : Nat} : lowU (n + 1) a b = if a % 2 = 0 then lowU n (a / 2) (b / 2) else (a, b) := rfl
def low (a : Nat) (y : Int32) : Int64 := if y = nI 0 then lN (lowU 22 a WH).1 else lN (lowU 22 a WH).2
theorem k34 {a : Nat} (ha : a < 2 ^ 60) : am_cal (d + 1) 34 [.long (lN a), .int x] (mS I J) = some (some (.long (low a x)), mS I J) := by
  have lp : ∀ n k a b, k + n = 22 → a < 2 ^ 60 → b < 2 ^ 60 → am_X (am_cal d) 34 6 [.null, .null, .int x, .long (lN a), .null, .long (lN b), .null, .int (nI k)] [] (mS I J) = some (some (.long (if x = nI 0 then lN (lowU n a b).1 else lN (lowU n a b).2)), mS I J) := by
    intro n
    induction n with
    | zero =>
      intro k a b hk ha hb
      rw [e_34_6]
      simp only [n_lt (show k < 2 ^ 31 by omega) (show 22 < 2 ^ 31 by decide), n_ltf (show 22 ≤ k by omega), rj_ite, ← n_i0, bq_s, mS_c, mS_l, mS_r, mS_i, mS_j, mS_pi, mS_pj, lt_st, bq_s, bV_s, bI_s, bJ_s, bA_s, nz_0, nc_0, nz_1, nc_1, nz_2, nc_2, nz_3, nc_3, nz_4, nc_4, nz_5, nc_5, nz_6, nc_6, nz_7, nc_7, nz_8, nc_8, nz_9, nc_9, nz_10, nc_10, nz_11, nc_11, nz_12, nc_12, if_true, if_false, eq_self, true_and, and_true, false_or, or_false, true_or, or_true, false_and, and_false, not_true, not_false_eq_true, ne_eq, ite_self, ite_not, ↓reduceIte, n_101, n_107, n_11]
      rfl
    | succ n ih =>
      intro k a b hk ha hb
      have z2 : (lN 2 = 0) = False := eq_false (by decide +kernel)
      have em : lN a - lN (a / 2) * lN 2 = lN (a % 2) := by
        rw [lN_mul, lN_sub (by omega)]
        exact congrArg lN (by omega)
      have e0 : (lg_cmp (lN (a % 2)) (lN 0) = 0) = (a % 2 = 0) := by
        rw [l_eq, LN_eq (by omega) (by decide)]
      rw [e_34_6, lowU_s]
      simp only [n_lt (show k < 2 ^ 31 by omega) (show 22 < 2 ^ 31 by decide), n_ltt (show k < 22 by omega), z2, em, e0, rj_ite, LN_div (show a < 2 ^ 63 by omega) (show 2 < 2 ^ 63 by decide) (by decide), LN_div (show b < 2 ^ 63 by omega) (show 2 < 2 ^ 63 by decide) (by decide), nI_add, ih (k + 1) (a / 2) (b / 2) (by omega) (by omega) (by omega), ← n_i0, bq_s, mS_c, mS_l, mS_r, mS_i, mS_j, mS_pi, mS_pj, lt_st, bq_s, bV_s, bI_s, bJ_s, bA_s, nz_0, nc_0, nz_1, nc_1, nz_2, nc_2, nz_3, nc_3, nz_4, nc_4, nz_5, nc_5, nz_6, nc_6, nz_7, nc_7, nz_8, nc_8, nz_9, nc_9, nz_10, nc_10, nz_11, nc_11, nz_12, nc_12, if_true, if_false, eq_self, true_and, and_true, false_or, or_false, true_or, or_true, false_and, and_false, not_true, not_false_eq_true, ne_eq, ite_self, ite_not, ↓reduceIte, n_101, n_107, n_11]
      by_cases h2 : a % 2 = 0
      · rw [if_pos h2, if_pos h2]
      · rw [if_neg h2, if_neg h2]
  rw [c_34]
  exact lp 22 0 a 4194304 (by omega) ha (by decide)
/-- what one has of all claims of a sort -/
noncomputable def sumU (s : Rw) (p : Nat) (sort : Int32) : Nat → Nat
  | 0 => 0
  | c + 1 => sumU s p sort c + (if cF s c 0 = sort then (cF s c 2).toNatClampNeg * shA s c p else 0)
theorem sumU_s {sort : Int32} : sumU s p sort (c + 1) = sumU s p sort c + (if cF s c 0 = sort then (cF s c 2).toNatClampNeg * shA s c p else 0) := rfl
theorem sumU_le (hW : WF s) {sort : Int32} : ∀ c, c ≤ nC s → sumU s p sort c ≤ c * (9999 * WH)
  | 0, _ => Nat.le_refl _
  | c + 1, hc => by
    have ih := sumU_le hW (sort := sort) c (by omega)
    obtain ⟨_, ⟨v, _, hv, e2⟩, _⟩ := WFcl hW (show c < nC s by omega)
    have hs := shA_le hW (show c < nC s by omega) p
    rw [sumU_s, e2, nI_clamp (by omega), Nat.succ_mul]
    split
    · have := Nat.mul_le_mul hv hs
      omega
    · omega
/-- he asks for a sum: what differs afterwards -/
abbrev FK (w : Nat) (I' I : mI) : Prop := F1 (w + 12) I' I
theorem k35 {sort : Int32} (hg : isG g w) (hR : Rep I w s) (hW : WF s) (hp : p < 12) : ∃ I' J', F1 (w + 12) I' I ∧ G1 (g + 1) J' J ∧ am_cal (d + 7) 35 [.ref g, .int (nI p), .int sort] (mS I J) = some (some (.long (lN (sumU s p sort (nC s)))), mS I' J') := by
  have hc12 := hW.nC.1
  have hw := hg.w
  have j0c : (nI (p)).toNatClampNeg = p := nI_clamp (by omega)
  have j0z : (nI (p) < 0) = False := n_ge0 (by omega)
  have j0l : (12 ≤ p) = False := n_lef (by omega)
  have lp : ∀ n c (I1 : mI) (J1 : mJ), c + n = nC s → F1 (w + 12) I1 I → G1 (g + 1) J1 J → ∃ I' J', F1 (w + 12) I' I ∧ G1 (g + 1) J' J ∧ am_X (am_cal (d + 6)) 35 4 [.ref g, .int (nI p), .int sort, .long (lN (sumU s p sort c)), .null, .int (nI c)] [] (mS I1 J1) = some (some (.long (lN (sumU s p sort (nC s)))), mS I' J') := by
    intro n
    induction n with
    | zero =>
      intro c I1 J1 hc h1 h2
      have hR1 := hR.fr hW (fun a _ _ ha => h1 a ha)
      refine ⟨I1, J1, h1, h2, ?_⟩
      rw [e_35_4]
      simp only [g_C hg, g_R0 hg, w_C hw, hR1.cls, hW.nC.2, n_lt (show c < 2 ^ 31 by omega) (show nC s < 2 ^ 31 by omega), n_ltf (show nC s ≤ c by omega), bq_s, mS_c, mS_l, mS_r, mS_i, mS_j, mS_pi, mS_pj, lt_st, bq_s, bV_s, bI_s, bJ_s, bA_s, nz_0, nc_0, nz_1, nc_1, nz_2, nc_2, nz_3, nc_3, nz_4, nc_4, nz_5, nc_5, nz_6, nc_6, nz_7, nc_7, nz_8, nc_8, nz_9, nc_9, nz_10, nc_10, nz_11, nc_11, nz_12, nc_12, if_true, if_false, eq_self, true_and, and_true, false_or, or_false, true_or, or_true, false_and, and_false, not_true, not_false_eq_true, ne_eq, ite_self, ite_not, ↓reduceIte, n_101, n_107, n_11]
      rw [show c = nC s by omega]
    | succ n ih =>
      intro c I1 J1 hc h1 h2
      have hcn : c < nC s := by omega
      have hR1 := hR.fr hW (fun a _ _ ha => h1 a ha)
      have i0c : (nI (c)).toNatClampNeg = c := nI_clamp (by omega)
      have i0z : (nI (c) < 0) = False := n_ge0 (by omega)
      have i0l : (12 ≤ c) = False := n_lef (by omega)
      obtain ⟨I2, J2, a, b, cc, hr⟩ := k37 (d := d) (J := J1) hg hR1 hW hcn
      have hR2 := hR1.fr hW (fun x _ _ hx => a x hx)
      obtain ⟨_, ⟨v, _, hv, e2⟩, _⟩ := WFcl hW hcn
      have c0 := hR1.cF hcn (show 0 < 5 by decide)
      have c2 := hR2.cF hcn (show 2 < 5 by decide)
      rw [e2] at c2
      have ev : (nI v).toInt64 = lN v := nI_l (by omega)
      rw [e_35_4]
      simp only [g_C hg, g_R0 hg, g_R1 hg, g_C1 hg, g_L1 hg, w_C hw, w_R2 hw, w_C3 hw, w_L3 hw, w_rc hw (show c < 12 by omega), w_cc hw (show c < 12 by omega), hR1.cls, hW.nC.2, n_lt (show c < 2 ^ 31 by omega) (show nC s < 2 ^ 31 by omega), n_ltt hcn, i0c, i0z, i0l, j0c, j0z, j0l, c0, c2, ev, hr, cc p hp, lN_mul, lN_add, nI_add, n_11, bq_s, mS_c, mS_l, mS_r, mS_i, mS_j, mS_pi, mS_pj, lt_st, bq_s, bV_s, bI_s, bJ_s, bA_s, nz_0, nc_0, nz_1, nc_1, nz_2, nc_2, nz_3, nc_3, nz_4, nc_4, nz_5, nc_5, nz_6, nc_6, nz_7, nc_7, nz_8, nc_8, nz_9, nc_9, nz_10, nc_10, nz_11, nc_11, nz_12, nc_12, if_true, if_false, eq_self, true_and, and_true, false_or, or_false, true_or, or_true, false_and, and_false, not_true, not_false_eq_true, ne_eq, ite_self, ite_not, ↓reduceIte, n_101, n_107, n_11]
      by_cases hs : cF s c 0 = sort
      · have := ih (c + 1) I2 J2 (by omega) (fun x hx => by rw [a x hx, h1 x hx]) (h2.tr b)
        rw [sumU_s, if_pos hs, e2, nI_clamp (by omega)] at this
        rw [if_pos hs]
        exact this
      · have := ih (c + 1) I1 J1 (by omega) h1 h2
        rw [sumU_s, if_neg hs, Nat.add_zero] at this
        rw [if_neg hs]
        exact this
  obtain ⟨I', J', a, b, cc⟩ := lp (nC s) 0 I J (by omega) (fun _ _ => rfl) (fun _ _ => rfl)
  refine ⟨I', J', a, b, ?_⟩
  rw [c_35 (g_C hg)]
  exact cc
noncomputable def v_share (s : Rw) (x y z : Int32) : Int64 := if isP s x then (if isCl s y then (if i2 z then low (shA s y.toNatClampNeg x.toNatClampNeg) z else Int64.ofInt (-1)) else Int64.ofInt (-1)) else Int64.ofInt (-1)
noncomputable def v_total (s : Rw) (x y z : Int32) : Int64 := if isP s x then (if i2 y then (if i2 z then low (sumU s x.toNatClampNeg y (nC s)) z else Int64.ofInt (-1)) else Int64.ofInt (-1)) else Int64.ofInt (-1)
/-- but for what the class's questions leave otherwise -/
abbrev GC (J' J : mJ) : Prop := ∀ a, a ≠ 191 → a ≠ 193 → J' a = J a
theorem k106 (h : Rep I 1 s) (hW : WF s) {z : Int32} : ∃ I' J', FC I' I ∧ GC J' J ∧ am_cal (d + 7) 106 [.ref 0, .int x, .int y, .int z] (mS I J) = some (some (.long (v_share s x y z)), mS I' J') := by
  have h12 := hW.nP.1
  have hc12 := hW.nC.1
  rw [c_106 lc_0]
  simp only [lc_0, lr_0_0, k65 W1 h, k66 W1 h, k147, bq_s, mS_c, mS_l, mS_r, mS_i, mS_j, mS_pi, mS_pj, lt_st, bq_s, bV_s, bI_s, bJ_s, bA_s, nz_0, nc_0, nz_1, nc_1, nz_2, nc_2, nz_3, nc_3, nz_4, nc_4, nz_5, nc_5, nz_6, nc_6, nz_7, nc_7, nz_8, nc_8, nz_9, nc_9, nz_10, nc_10, nz_11, nc_11, nz_12, nc_12, if_true, if_false, eq_self, true_and, and_true, false_or, or_false, true_or, or_true, false_and, and_false, not_true, not_false_eq_true, ne_eq, ite_self, ite_not, ↓reduceIte, n_101, n_107, n_11]
  unfold v_share
  by_cases hx : isP s x
  · by_cases hy : isCl s y
    · by_cases hz : i2 z
      · obtain ⟨p, hp, rfl⟩ := isP_n hW hx
        obtain ⟨c, hc, rfl⟩ := isCl_n hW hy
        have i0c : (nI (p)).toNatClampNeg = p := nI_clamp (by omega)
        have i0z : (nI (p) < 0) = False := n_ge0 (by omega)
        have i0l : (12 ≤ p) = False := n_lef (by omega)
        obtain ⟨I', J', a, b, cc, hr⟩ := k37 (d := d) (J := J) (Or.inl ⟨rfl, rfl⟩) h hW hc
        have hs := shA_le hW hc p
        have ew : WH = 4194304 := rfl
        refine ⟨I', J', FC.f1 a, fun x hx _ => b x hx, ?_⟩
        have hrow := cc p (by omega)
        simp only [if_pos hx, if_pos hy, if_pos hz, lr_0_3, lc_0, lc_190, lr_190_1, lc_191, ll_191, hr, i0c, i0z, i0l, hrow, k34 (show shA s c p < 2 ^ 60 by omega), nI_clamp (show c < 2 ^ 31 by omega), nn_0_1, nn_0_2, nn_0_3, nn_0_4, nn_0_5, nn_0_6, nn_0_7, nn_0_8, nn_1_0, nn_1_2, nn_1_3, nn_1_4, nn_1_5, nn_1_6, nn_1_7, nn_1_8, nn_2_0, nn_2_1, nn_2_3, nn_2_4, nn_2_5, nn_2_6, nn_2_7, nn_2_8, nn_3_0, nn_3_1, nn_3_2, nn_3_4, nn_3_5, nn_3_6, nn_3_7, nn_3_8, nn_4_0, nn_4_1, nn_4_2, nn_4_3, nn_4_5, nn_4_6, nn_4_7, nn_4_8, nn_5_0, nn_5_1, nn_5_2, nn_5_3, nn_5_4, nn_5_6, nn_5_7, nn_5_8, nn_6_0, nn_6_1, nn_6_2, nn_6_3, nn_6_4, nn_6_5, nn_6_7, nn_6_8, nn_7_0, nn_7_1, nn_7_2, nn_7_3, nn_7_4, nn_7_5, nn_7_6, nn_7_8, nn_8_0, nn_8_1, nn_8_2, nn_8_3, nn_8_4, nn_8_5, nn_8_6, nn_8_7, nq_0, nq_1, nq_2, nq_3, nq_4, nq_5, nq_6, nq_7, nq_8, bq_s, mS_c, mS_l, mS_r, mS_i, mS_j, mS_pi, mS_pj, lt_st, bq_s, bV_s, bI_s, bJ_s, bA_s, nz_0, nc_0, nz_1, nc_1, nz_2, nc_2, nz_3, nc_3, nz_4, nc_4, nz_5, nc_5, nz_6, nc_6, nz_7, nc_7, nz_8, nc_8, nz_9, nc_9, nz_10, nc_10, nz_11, nc_11, nz_12, nc_12, if_true, if_false, eq_self, true_and, and_true, false_or, or_false, true_or, or_true, false_and, and_false, not_true, not_false_eq_true, ne_eq, ite_self, ite_not, ↓reduceIte, n_101, n_107, n_11]
      · exact ⟨I, J, FC.rf, fun _ _ _ => rfl, by simp only [if_pos hx, if_pos hy, if_neg hz, nn_0_1, nn_0_2, nn_0_3, nn_0_4, nn_0_5, nn_0_6, nn_0_7, nn_0_8, nn_1_0, nn_1_2, nn_1_3, nn_1_4, nn_1_5, nn_1_6, nn_1_7, nn_1_8, nn_2_0, nn_2_1, nn_2_3, nn_2_4, nn_2_5, nn_2_6, nn_2_7, nn_2_8, nn_3_0, nn_3_1, nn_3_2, nn_3_4, nn_3_5, nn_3_6, nn_3_7, nn_3_8, nn_4_0, nn_4_1, nn_4_2, nn_4_3, nn_4_5, nn_4_6, nn_4_7, nn_4_8, nn_5_0, nn_5_1, nn_5_2, nn_5_3, nn_5_4, nn_5_6, nn_5_7, nn_5_8, nn_6_0, nn_6_1, nn_6_2, nn_6_3, nn_6_4, nn_6_5, nn_6_7, nn_6_8, nn_7_0, nn_7_1, nn_7_2, nn_7_3, nn_7_4, nn_7_5, nn_7_6, nn_7_8, nn_8_0, nn_8_1, nn_8_2, nn_8_3, nn_8_4, nn_8_5, nn_8_6, nn_8_7, nq_0, nq_1, nq_2, nq_3, nq_4, nq_5, nq_6, nq_7, nq_8, bq_s, mS_c, mS_l, mS_r, mS_i, mS_j, mS_pi, mS_pj, lt_st, bq_s, bV_s, bI_s, bJ_s, bA_s, nz_0, nc_0, nz_1, nc_1, nz_2, nc_2, nz_3, nc_3, nz_4, nc_4, nz_5, nc_5, nz_6, nc_6, nz_7, nc_7, nz_8, nc_8, nz_9, nc_9, nz_10, nc_10, nz_11, nc_11, nz_12, nc_12, if_true, if_false, eq_self, true_and, and_true, false_or, or_false, true_or, or_true, false_and, and_false, not_true, not_false_eq_true, ne_eq, ite_self, ite_not, ↓reduceIte, n_101, n_107, n_11]⟩
    · exact ⟨I, J, FC.rf, fun _ _ _ => rfl, by simp only [if_pos hx, if_neg hy, nn_0_1, nn_0_2, nn_0_3, nn_0_4, nn_0_5, nn_0_6, nn_0_7, nn_0_8, nn_1_0, nn_1_2, nn_1_3, nn_1_4, nn_1_5, nn_1_6, nn_1_7, nn_1_8, nn_2_0, nn_2_1, nn_2_3, nn_2_4, nn_2_5, nn_2_6, nn_2_7, nn_2_8, nn_3_0, nn_3_1, nn_3_2, nn_3_4, nn_3_5, nn_3_6, nn_3_7, nn_3_8, nn_4_0, nn_4_1, nn_4_2, nn_4_3, nn_4_5, nn_4_6, nn_4_7, nn_4_8, nn_5_0, nn_5_1, nn_5_2, nn_5_3, nn_5_4, nn_5_6, nn_5_7, nn_5_8, nn_6_0, nn_6_1, nn_6_2, nn_6_3, nn_6_4, nn_6_5, nn_6_7, nn_6_8, nn_7_0, nn_7_1, nn_7_2, nn_7_3, nn_7_4, nn_7_5, nn_7_6, nn_7_8, nn_8_0, nn_8_1, nn_8_2, nn_8_3, nn_8_4, nn_8_5, nn_8_6, nn_8_7, nq_0, nq_1, nq_2, nq_3, nq_4, nq_5, nq_6, nq_7, nq_8, bq_s, mS_c, mS_l, mS_r, mS_i, mS_j, mS_pi, mS_pj, lt_st, bq_s, bV_s, bI_s, bJ_s, bA_s, nz_0, nc_0, nz_1, nc_1, nz_2, nc_2, nz_3, nc_3, nz_4, nc_4, nz_5, nc_5, nz_6, nc_6, nz_7, nc_7, nz_8, nc_8, nz_9, nc_9, nz_10, nc_10, nz_11, nc_11, nz_12, nc_12, if_true, if_false, eq_self, true_and, and_true, false_or, or_false, true_or, or_true, false_and, and_false, not_true, not_false_eq_true, ne_eq, ite_self, ite_not, ↓reduceIte, n_101, n_107, n_11]⟩
  · exact ⟨I, J, FC.rf, fun _ _ _ => rfl, by simp only [if_neg hx, nn_0_1, nn_0_2, nn_0_3, nn_0_4, nn_0_5, nn_0_6, nn_0_7, nn_0_8, nn_1_0, nn_1_2, nn_1_3, nn_1_4, nn_1_5, nn_1_6, nn_1_7, nn_1_8, nn_2_0, nn_2_1, nn_2_3, nn_2_4, nn_2_5, nn_2_6, nn_2_7, nn_2_8, nn_3_0, nn_3_1, nn_3_2, nn_3_4, nn_3_5, nn_3_6, nn_3_7, nn_3_8, nn_4_0, nn_4_1, nn_4_2, nn_4_3, nn_4_5, nn_4_6, nn_4_7, nn_4_8, nn_5_0, nn_5_1, nn_5_2, nn_5_3, nn_5_4, nn_5_6, nn_5_7, nn_5_8, nn_6_0, nn_6_1, nn_6_2, nn_6_3, nn_6_4, nn_6_5, nn_6_7, nn_6_8, nn_7_0, nn_7_1, nn_7_2, nn_7_3, nn_7_4, nn_7_5, nn_7_6, nn_7_8, nn_8_0, nn_8_1, nn_8_2, nn_8_3, nn_8_4, nn_8_5, nn_8_6, nn_8_7, nq_0, nq_1, nq_2, nq_3, nq_4, nq_5, nq_6, nq_7, nq_8, bq_s, mS_c, mS_l, mS_r, mS_i, mS_j, mS_pi, mS_pj, lt_st, bq_s, bV_s, bI_s, bJ_s, bA_s, nz_0, nc_0, nz_1, nc_1, nz_2, nc_2, nz_3, nc_3, nz_4, nc_4, nz_5, nc_5, nz_6, nc_6, nz_7, nc_7, nz_8, nc_8, nz_9, nc_9, nz_10, nc_10, nz_11, nc_11, nz_12, nc_12, if_true, if_false, eq_self, true_and, and_true, false_or, or_false, true_or, or_true, false_and, and_false, not_true, not_false_eq_true, ne_eq, ite_self, ite_not, ↓reduceIte, n_101, n_107, n_11]⟩
theorem k148 : am_cal (g + 1) 148 [.int x] (mS I J) = some (some (.int (if i2 x then nI 1 else nI 0)), mS I J) := by
  rw [c_148]
  simp only [n_i0]
  by_cases h0 : x = nI 0
  · simp only [h0, i2, bq_s, mS_c, mS_l, mS_r, mS_i, mS_j, mS_pi, mS_pj, lt_st, bq_s, bV_s, bI_s, bJ_s, bA_s, nz_0, nc_0, nz_1, nc_1, nz_2, nc_2, nz_3, nc_3, nz_4, nc_4, nz_5, nc_5, nz_6, nc_6, nz_7, nc_7, nz_8, nc_8, nz_9, nc_9, nz_10, nc_10, nz_11, nc_11, nz_12, nc_12, if_true, if_false, eq_self, true_and, and_true, false_or, or_false, true_or, or_true, false_and, and_false, not_true, not_false_eq_true, ne_eq, ite_self, ite_not, ↓reduceIte, n_101, n_107, n_11]
  · by_cases h1 : x = nI 1
    · simp only [h1, i2, nn_0_1, nn_0_2, nn_0_3, nn_0_4, nn_0_5, nn_0_6, nn_0_7, nn_0_8, nn_1_0, nn_1_2, nn_1_3, nn_1_4, nn_1_5, nn_1_6, nn_1_7, nn_1_8, nn_2_0, nn_2_1, nn_2_3, nn_2_4, nn_2_5, nn_2_6, nn_2_7, nn_2_8, nn_3_0, nn_3_1, nn_3_2, nn_3_4, nn_3_5, nn_3_6, nn_3_7, nn_3_8, nn_4_0, nn_4_1, nn_4_2, nn_4_3, nn_4_5, nn_4_6, nn_4_7, nn_4_8, nn_5_0, nn_5_1, nn_5_2, nn_5_3, nn_5_4, nn_5_6, nn_5_7, nn_5_8, nn_6_0, nn_6_1, nn_6_2, nn_6_3, nn_6_4, nn_6_5, nn_6_7, nn_6_8, nn_7_0, nn_7_1, nn_7_2, nn_7_3, nn_7_4, nn_7_5, nn_7_6, nn_7_8, nn_8_0, nn_8_1, nn_8_2, nn_8_3, nn_8_4, nn_8_5, nn_8_6, nn_8_7, nq_0, nq_1, nq_2, nq_3, nq_4, nq_5, nq_6, nq_7, nq_8, bq_s, mS_c, mS_l, mS_r, mS_i, mS_j, mS_pi, mS_pj, lt_st, bq_s, bV_s, bI_s, bJ_s, bA_s, nz_0, nc_0, nz_1, nc_1, nz_2, nc_2, nz_3, nc_3, nz_4, nc_4, nz_5, nc_5, nz_6, nc_6, nz_7, nc_7, nz_8, nc_8, nz_9, nc_9, nz_10, nc_10, nz_11, nc_11, nz_12, nc_12, if_true, if_false, eq_self, true_and, and_true, false_or, or_false, true_or, or_true, false_and, and_false, not_true, not_false_eq_true, ne_eq, ite_self, ite_not, ↓reduceIte, n_101, n_107, n_11]
    · simp only [h0, h1, i2, bq_s, mS_c, mS_l, mS_r, mS_i, mS_j, mS_pi, mS_pj, lt_st, bq_s, bV_s, bI_s, bJ_s, bA_s, nz_0, nc_0, nz_1, nc_1, nz_2, nc_2, nz_3, nc_3, nz_4, nc_4, nz_5, nc_5, nz_6, nc_6, nz_7, nc_7, nz_8, nc_8, nz_9, nc_9, nz_10, nc_10, nz_11, nc_11, nz_12, nc_12, if_true, if_false, eq_self, true_and, and_true, false_or, or_false, true_or, or_true, false_and, and_false, not_true, not_false_eq_true, ne_eq, ite_self, ite_not, ↓reduceIte, n_101, n_107, n_11]
theorem k107 (h : Rep I 1 s) (hW : WF s) {z : Int32} : ∃ I' J', FC I' I ∧ GC J' J ∧ am_cal (d + 8) 107 [.ref 0, .int x, .int y, .int z] (mS I J) = some (some (.long (v_total s x y z)), mS I' J') := by
  have h12 := hW.nP.1
  have hc12 := hW.nC.1
  rw [c_107 lc_0]
  simp only [lc_0, lr_0_0, k65 W1 h, k147, k148, bq_s, mS_c, mS_l, mS_r, mS_i, mS_j, mS_pi, mS_pj, lt_st, bq_s, bV_s, bI_s, bJ_s, bA_s, nz_0, nc_0, nz_1, nc_1, nz_2, nc_2, nz_3, nc_3, nz_4, nc_4, nz_5, nc_5, nz_6, nc_6, nz_7, nc_7, nz_8, nc_8, nz_9, nc_9, nz_10, nc_10, nz_11, nc_11, nz_12, nc_12, if_true, if_false, eq_self, true_and, and_true, false_or, or_false, true_or, or_true, false_and, and_false, not_true, not_false_eq_true, ne_eq, ite_self, ite_not, ↓reduceIte, n_101, n_107, n_11]
  unfold v_total
  by_cases hx : isP s x
  · by_cases hy : i2 y
    · by_cases hz : i2 z
      · obtain ⟨p, hp, rfl⟩ := isP_n hW hx
        obtain ⟨I', J', a, b, hr⟩ := k35 (d := d) (J := J) (I := I) (sort := y) (p := p) (g := 190) (Or.inl ⟨rfl, rfl⟩) h hW (by omega)
        have hs := sumU_le hW (p := p) (sort := y) (nC s) (Nat.le_refl _)
        have ew : WH = 4194304 := rfl
        refine ⟨I', J', FC.f1 a, fun x hx _ => b x hx, ?_⟩
        have hm : nC s * (9999 * WH) ≤ 12 * (9999 * WH) := Nat.mul_le_mul_right _ hc12
        simp only [if_pos hx, if_pos hy, if_pos hz, lr_0_3, hr, k34 (show sumU s p y (nC s) < 2 ^ 60 by rw [ew] at hs hm; omega), nI_clamp (show p < 2 ^ 31 by omega), nn_0_1, nn_0_2, nn_0_3, nn_0_4, nn_0_5, nn_0_6, nn_0_7, nn_0_8, nn_1_0, nn_1_2, nn_1_3, nn_1_4, nn_1_5, nn_1_6, nn_1_7, nn_1_8, nn_2_0, nn_2_1, nn_2_3, nn_2_4, nn_2_5, nn_2_6, nn_2_7, nn_2_8, nn_3_0, nn_3_1, nn_3_2, nn_3_4, nn_3_5, nn_3_6, nn_3_7, nn_3_8, nn_4_0, nn_4_1, nn_4_2, nn_4_3, nn_4_5, nn_4_6, nn_4_7, nn_4_8, nn_5_0, nn_5_1, nn_5_2, nn_5_3, nn_5_4, nn_5_6, nn_5_7, nn_5_8, nn_6_0, nn_6_1, nn_6_2, nn_6_3, nn_6_4, nn_6_5, nn_6_7, nn_6_8, nn_7_0, nn_7_1, nn_7_2, nn_7_3, nn_7_4, nn_7_5, nn_7_6, nn_7_8, nn_8_0, nn_8_1, nn_8_2, nn_8_3, nn_8_4, nn_8_5, nn_8_6, nn_8_7, nq_0, nq_1, nq_2, nq_3, nq_4, nq_5, nq_6, nq_7, nq_8, bq_s, mS_c, mS_l, mS_r, mS_i, mS_j, mS_pi, mS_pj, lt_st, bq_s, bV_s, bI_s, bJ_s, bA_s, nz_0, nc_0, nz_1, nc_1, nz_2, nc_2, nz_3, nc_3, nz_4, nc_4, nz_5, nc_5, nz_6, nc_6, nz_7, nc_7, nz_8, nc_8, nz_9, nc_9, nz_10, nc_10, nz_11, nc_11, nz_12, nc_12, if_true, if_false, eq_self, true_and, and_true, false_or, or_false, true_or, or_true, false_and, and_false, not_true, not_false_eq_true, ne_eq, ite_self, ite_not, ↓reduceIte, n_101, n_107, n_11]
      · exact ⟨I, J, FC.rf, fun _ _ _ => rfl, by simp only [if_pos hx, if_pos hy, if_neg hz, nn_0_1, nn_0_2, nn_0_3, nn_0_4, nn_0_5, nn_0_6, nn_0_7, nn_0_8, nn_1_0, nn_1_2, nn_1_3, nn_1_4, nn_1_5, nn_1_6, nn_1_7, nn_1_8, nn_2_0, nn_2_1, nn_2_3, nn_2_4, nn_2_5, nn_2_6, nn_2_7, nn_2_8, nn_3_0, nn_3_1, nn_3_2, nn_3_4, nn_3_5, nn_3_6, nn_3_7, nn_3_8, nn_4_0, nn_4_1, nn_4_2, nn_4_3, nn_4_5, nn_4_6, nn_4_7, nn_4_8, nn_5_0, nn_5_1, nn_5_2, nn_5_3, nn_5_4, nn_5_6, nn_5_7, nn_5_8, nn_6_0, nn_6_1, nn_6_2, nn_6_3, nn_6_4, nn_6_5, nn_6_7, nn_6_8, nn_7_0, nn_7_1, nn_7_2, nn_7_3, nn_7_4, nn_7_5, nn_7_6, nn_7_8, nn_8_0, nn_8_1, nn_8_2, nn_8_3, nn_8_4, nn_8_5, nn_8_6, nn_8_7, nq_0, nq_1, nq_2, nq_3, nq_4, nq_5, nq_6, nq_7, nq_8, bq_s, mS_c, mS_l, mS_r, mS_i, mS_j, mS_pi, mS_pj, lt_st, bq_s, bV_s, bI_s, bJ_s, bA_s, nz_0, nc_0, nz_1, nc_1, nz_2, nc_2, nz_3, nc_3, nz_4, nc_4, nz_5, nc_5, nz_6, nc_6, nz_7, nc_7, nz_8, nc_8, nz_9, nc_9, nz_10, nc_10, nz_11, nc_11, nz_12, nc_12, if_true, if_false, eq_self, true_and, and_true, false_or, or_false, true_or, or_true, false_and, and_false, not_true, not_false_eq_true, ne_eq, ite_self, ite_not, ↓reduceIte, n_101, n_107, n_11]⟩
    · exact ⟨I, J, FC.rf, fun _ _ _ => rfl, by simp only [if_pos hx, if_neg hy, nn_0_1, nn_0_2, nn_0_3, nn_0_4, nn_0_5, nn_0_6, nn_0_7, nn_0_8, nn_1_0, nn_1_2, nn_1_3, nn_1_4, nn_1_5, nn_1_6, nn_1_7, nn_1_8, nn_2_0, nn_2_1, nn_2_3, nn_2_4, nn_2_5, nn_2_6, nn_2_7, nn_2_8, nn_3_0, nn_3_1, nn_3_2, nn_3_4, nn_3_5, nn_3_6, nn_3_7, nn_3_8, nn_4_0, nn_4_1, nn_4_2, nn_4_3, nn_4_5, nn_4_6, nn_4_7, nn_4_8, nn_5_0, nn_5_1, nn_5_2, nn_5_3, nn_5_4, nn_5_6, nn_5_7, nn_5_8, nn_6_0, nn_6_1, nn_6_2, nn_6_3, nn_6_4, nn_6_5, nn_6_7, nn_6_8, nn_7_0, nn_7_1, nn_7_2, nn_7_3, nn_7_4, nn_7_5, nn_7_6, nn_7_8, nn_8_0, nn_8_1, nn_8_2, nn_8_3, nn_8_4, nn_8_5, nn_8_6, nn_8_7, nq_0, nq_1, nq_2, nq_3, nq_4, nq_5, nq_6, nq_7, nq_8, bq_s, mS_c, mS_l, mS_r, mS_i, mS_j, mS_pi, mS_pj, lt_st, bq_s, bV_s, bI_s, bJ_s, bA_s, nz_0, nc_0, nz_1, nc_1, nz_2, nc_2, nz_3, nc_3, nz_4, nc_4, nz_5, nc_5, nz_6, nc_6, nz_7, nc_7, nz_8, nc_8, nz_9, nc_9, nz_10, nc_10, nz_11, nc_11, nz_12, nc_12, if_true, if_false, eq_self, true_and, and_true, false_or, or_false, true_or, or_true, false_and, and_false, not_true, not_false_eq_true, ne_eq, ite_self, ite_not, ↓reduceIte, n_101, n_107, n_11]⟩
  · exact ⟨I, J, FC.rf, fun _ _ _ => rfl, by simp only [if_neg hx, nn_0_1, nn_0_2, nn_0_3, nn_0_4, nn_0_5, nn_0_6, nn_0_7, nn_0_8, nn_1_0, nn_1_2, nn_1_3, nn_1_4, nn_1_5, nn_1_6, nn_1_7, nn_1_8, nn_2_0, nn_2_1, nn_2_3, nn_2_4, nn_2_5, nn_2_6, nn_2_7, nn_2_8, nn_3_0, nn_3_1, nn_3_2, nn_3_4, nn_3_5, nn_3_6, nn_3_7, nn_3_8, nn_4_0, nn_4_1, nn_4_2, nn_4_3, nn_4_5, nn_4_6, nn_4_7, nn_4_8, nn_5_0, nn_5_1, nn_5_2, nn_5_3, nn_5_4, nn_5_6, nn_5_7, nn_5_8, nn_6_0, nn_6_1, nn_6_2, nn_6_3, nn_6_4, nn_6_5, nn_6_7, nn_6_8, nn_7_0, nn_7_1, nn_7_2, nn_7_3, nn_7_4, nn_7_5, nn_7_6, nn_7_8, nn_8_0, nn_8_1, nn_8_2, nn_8_3, nn_8_4, nn_8_5, nn_8_6, nn_8_7, nq_0, nq_1, nq_2, nq_3, nq_4, nq_5, nq_6, nq_7, nq_8, bq_s, mS_c, mS_l, mS_r, mS_i, mS_j, mS_pi, mS_pj, lt_st, bq_s, bV_s, bI_s, bJ_s, bA_s, nz_0, nc_0, nz_1, nc_1, nz_2, nc_2, nz_3, nc_3, nz_4, nc_4, nz_5, nc_5, nz_6, nc_6, nz_7, nc_7, nz_8, nc_8, nz_9, nc_9, nz_10, nc_10, nz_11, nc_11, nz_12, nc_12, if_true, if_false, eq_self, true_and, and_true, false_or, or_false, true_or, or_true, false_and, and_false, not_true, not_false_eq_true, ne_eq, ite_self, ite_not, ↓reduceIte, n_101, n_107, n_11]⟩
end D3
