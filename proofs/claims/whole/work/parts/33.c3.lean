/-! ===== the class: recall and what hangs on it ===== -/
section C3
variable {I : mI} {J : mJ} {w p q e c d l b g : Nat} {s : Rw} {x y key day : Int32}
/-- but for the facts and the minds' rows nothing differs -/
abbrev FC (I' I : mI) : Prop := ∀ a, a ≠ 13 → a ≠ 196 → a ≠ 197 → I' a = I a
theorem FC.rf : FC I I := fun _ _ _ _ => rfl
theorem FC.tr {I I1 I2 : mI} (h1 : FC I1 I) (h2 : FC I2 I1) : FC I2 I := fun a x y z => by rw [h2 a x y z, h1 a x y z]
theorem FC.f1 {I I1 : mI} (h : F1 13 I1 I) : FC I1 I := fun a x _ _ => h a x
theorem FC.k1 {I I1 : mI} (h : F1 196 I1 I) : FC I1 I := fun a _ x _ => h a x
theorem FC.rep {I I1 : mI} (h : Rep I 1 s) (hW : WF s) (hf : FC I1 I) : Rep I1 1 s := h.fr hW fun a ha hb hc => hf a (by omega) (by omega) (by omega)
def tldU (s : Rw) (m : Int32) : Nat → Int32 := mkS (fun d => !decide (m < dF s d 1))
theorem k42 {m : Int32} (h : Rep I 1 s) (hW : WF s) : am_cal (g + 1) 42 [.ref 195, .int m] (mS I J) = some (some (.int (tldU s m (nD s))), mS I J) := by
  have h10 := hW.nD.1
  have lp : ∀ n k, k + n = nD s → am_X (am_cal g) 42 4 [.ref 195, .int m, .int (tldU s m k), .int (nI k)] [] (mS I J) = some (some (.int (tldU s m (nD s))), mS I J) := by
    intro n
    induction n with
    | zero =>
      intro k hk
      rw [e_42_4]
      simp only [lc_195, lr_195_0, w_C W1, h.dds, hW.nD.2, n_lt (show k < 2 ^ 31 by omega) (show nD s < 2 ^ 31 by omega), n_ltf (show nD s ≤ k by omega), bq_s, mS_c, mS_l, mS_r, mS_i, mS_j, mS_pi, mS_pj, lt_st, bq_s, bV_s, bI_s, bJ_s, bA_s, nz_0, nc_0, nz_1, nc_1, nz_2, nc_2, nz_3, nc_3, nz_4, nc_4, nz_5, nc_5, nz_6, nc_6, nz_7, nc_7, nz_8, nc_8, nz_9, nc_9, nz_10, nc_10, nz_11, nc_11, nz_12, nc_12, if_true, if_false, eq_self, true_and, and_true, false_or, or_false, true_or, or_true, false_and, and_false, not_true, not_false_eq_true, ne_eq, ite_self, ite_not, ↓reduceIte, n_101, n_107, n_11]
      rw [show k = nD s by omega]
    | succ n ih =>
      intro k hk
      rw [e_42_4]
      have i0c : (nI (k)).toNatClampNeg = k := nI_clamp (by omega)
      have i0z : (nI (k) < 0) = False := n_ge0 (by omega)
      have i0l : (10 ≤ k) = False := n_lef (by omega)
      have ih := ih (k + 1) (by omega)
      unfold tldU at ih ⊢
      rw [mkS_s] at ih
      simp only [lc_195, lr_195_0, w_C W1, w_R5 W1, w_C6 W1, w_L6 W1, h.dds, hW.nD.2, n_lt (show k < 2 ^ 31 by omega) (show nD s < 2 ^ 31 by omega), n_ltt (show k < nD s by omega), i0c, i0z, i0l, h.d1 (show k < nD s by omega), nI_add, bq_s, mS_c, mS_l, mS_r, mS_i, mS_j, mS_pi, mS_pj, lt_st, bq_s, bV_s, bI_s, bJ_s, bA_s, nz_0, nc_0, nz_1, nc_1, nz_2, nc_2, nz_3, nc_3, nz_4, nc_4, nz_5, nc_5, nz_6, nc_6, nz_7, nc_7, nz_8, nc_8, nz_9, nc_9, nz_10, nc_10, nz_11, nc_11, nz_12, nc_12, if_true, if_false, eq_self, true_and, and_true, false_or, or_false, true_or, or_true, false_and, and_false, not_true, not_false_eq_true, ne_eq, ite_self, ite_not, ↓reduceIte, n_101, n_107, n_11]
      by_cases hm : m < dF s k 1
      · rw [if_pos hm]
        rw [decide_eq_true hm, Bool.not_true, if_neg (by decide)] at ih
        exact ih
      · rw [if_neg hm]
        rw [decide_eq_false hm, Bool.not_false, if_pos rfl] at ih
        exact ih
  rw [c_42 lc_195]
  exact lp (nD s) 0 (by omega)
theorem k41 (h : Rep I 1 s) (hW : WF s) : ∃ I', F1 196 I' I ∧ (∀ p, p < nP s → I' 196 p = knw s p) ∧ am_cal (g + 2) 41 [.ref 195] (mS I J) = some (none, mS I' J) := by
  have h12 := hW.nP.1
  have h10 := hW.nD.1
  have fr : ∀ {I1 : mI}, F1 196 I1 I → Rep I1 1 s := fun h1 => FC.rep h hW (FC.k1 h1)
  -- one's own deeds
  have l56 : ∀ (p : Nat) (t0 : Int32) (K : am_R), p < nP s → ∀ (n k : Nat) (I1 : mI), F1 196 I1 I → k + n = nD s →
      am_X (am_cal (g + 1)) 41 56 [.ref 195, .int (nI p), .null, .int (accD s p t0 k), .int (nI k)] [] (mS I1 J) = am_X (am_cal (g + 1)) 41 2 [.ref 195, .int (nI (p + 1)), .null, .null, .null] [] (mS (wI I1 196 p (accD s p t0 (nD s))) J) := by
    intro p t0 K hp n
    have j0c : (nI (p)).toNatClampNeg = p := nI_clamp (by omega)
    have j0z : (nI (p) < 0) = False := n_ge0 (by omega)
    have j0l : (12 ≤ p) = False := n_lef (by omega)
    induction n with
    | zero =>
      intro k I1 h1 hk
      have h2 := fr h1
      rw [e_41_56]
      simp only [lc_195, lr_195_0, lr_195_1, lc_196, ll_196, w_C W1, h2.dds, hW.nD.2, n_lt (show k < 2 ^ 31 by omega) (show nD s < 2 ^ 31 by omega), n_ltf (show nD s ≤ k by omega), j0c, j0z, j0l, nI_add, bq_s, mS_c, mS_l, mS_r, mS_i, mS_j, mS_pi, mS_pj, lt_st, bq_s, bV_s, bI_s, bJ_s, bA_s, nz_0, nc_0, nz_1, nc_1, nz_2, nc_2, nz_3, nc_3, nz_4, nc_4, nz_5, nc_5, nz_6, nc_6, nz_7, nc_7, nz_8, nc_8, nz_9, nc_9, nz_10, nc_10, nz_11, nc_11, nz_12, nc_12, if_true, if_false, eq_self, true_and, and_true, false_or, or_false, true_or, or_true, false_and, and_false, not_true, not_false_eq_true, ne_eq, ite_self, ite_not, ↓reduceIte, n_101, n_107, n_11]
      rw [show k = nD s by omega]
    | succ n ih =>
      intro k I1 h1 hk
      have h2 := fr h1
      rw [e_41_56]
      have i0c : (nI (k)).toNatClampNeg = k := nI_clamp (by omega)
      have i0z : (nI (k) < 0) = False := n_ge0 (by omega)
      have i0l : (10 ≤ k) = False := n_lef (by omega)
      have ih := ih (k + 1) I1 h1 (by omega)
      rw [show accD s p t0 (k + 1) = (if dF s k 0 = nI p then accD s p t0 k ||| (nI 1 <<< (nI k &&& 31)) else accD s p t0 k) from rfl] at ih
      simp only [lc_195, lr_195_0, w_C W1, w_R4 W1, w_C5 W1, w_L5 W1, h2.dds, hW.nD.2, n_lt (show k < 2 ^ 31 by omega) (show nD s < 2 ^ 31 by omega), n_ltt (show k < nD s by omega), i0c, i0z, i0l, h2.d0 (show k < nD s by omega), nI_add, bq_s, mS_c, mS_l, mS_r, mS_i, mS_j, mS_pi, mS_pj, lt_st, bq_s, bV_s, bI_s, bJ_s, bA_s, nz_0, nc_0, nz_1, nc_1, nz_2, nc_2, nz_3, nc_3, nz_4, nc_4, nz_5, nc_5, nz_6, nc_6, nz_7, nc_7, nz_8, nc_8, nz_9, nc_9, nz_10, nc_10, nz_11, nc_11, nz_12, nc_12, if_true, if_false, eq_self, true_and, and_true, false_or, or_false, true_or, or_true, false_and, and_false, not_true, not_false_eq_true, ne_eq, ite_self, ite_not, ↓reduceIte, n_101, n_107, n_11]
      by_cases hm : dF s k 0 = nI p
      · rw [if_pos hm]
        rw [if_pos hm] at ih
        exact ih
      · rw [if_neg hm]
        rw [if_neg hm] at ih
        exact ih
  have bk : ∀ q r, r < 32 → bit (knw s q) r = (decide (r < nD s) && rem s r q) := fun q r hr => by unfold knw; rw [bit_mk (by omega) hr]
  have lp : ∀ (n p : Nat) (I1 : mI), F1 196 I1 I → p + n = nP s → (∀ q, q < p → I1 196 q = knw s q) → ∃ I', F1 196 I' I ∧ (∀ p, p < nP s → I' 196 p = knw s p) ∧ am_X (am_cal (g + 1)) 41 2 [.ref 195, .int (nI p), .null, .null, .null] [] (mS I1 J) = some (none, mS I' J) := by
    intro n
    induction n with
    | zero =>
      intro p I1 h1 hp hk
      have h2 := fr h1
      refine ⟨I1, h1, fun q hq => hk q (by omega), ?_⟩
      rw [e_41_2]
      simp only [lc_195, lr_195_0, w_C W1, h2.ppl, hW.nP.2, n_lt (show p < 2 ^ 31 by omega) (show nP s < 2 ^ 31 by omega), n_ltf (show nP s ≤ p by omega), bq_s, mS_c, mS_l, mS_r, mS_i, mS_j, mS_pi, mS_pj, lt_st, bq_s, bV_s, bI_s, bJ_s, bA_s, nz_0, nc_0, nz_1, nc_1, nz_2, nc_2, nz_3, nc_3, nz_4, nc_4, nz_5, nc_5, nz_6, nc_6, nz_7, nc_7, nz_8, nc_8, nz_9, nc_9, nz_10, nc_10, nz_11, nc_11, nz_12, nc_12, if_true, if_false, eq_self, true_and, and_true, false_or, or_false, true_or, or_true, false_and, and_false, not_true, not_false_eq_true, ne_eq, ite_self, ite_not, ↓reduceIte, n_101, n_107, n_11]
    | succ n ih =>
      intro p I1 h1 hp hk
      have h2 := fr h1
      have hpn : p < nP s := by omega
      have i0c : (nI (p)).toNatClampNeg = p := nI_clamp (by omega)
      have i0z : (nI (p) < 0) = False := n_ge0 (by omega)
      have i0l : (12 ≤ p) = False := n_lef (by omega)
      -- the base set, whatever way it comes
      have go : ∀ t0 : Int32, (∀ r, r < 32 → (bit t0 r || (decide (r < nD s) && decide (dF s r 0 = nI p))) = (decide (r < nD s) && rem s r p)) → ∃ I', F1 196 I' I ∧ (∀ p, p < nP s → I' 196 p = knw s p) ∧ am_X (am_cal (g + 1)) 41 56 [.ref 195, .int (nI p), .null, .int t0, .int (nI 0)] [] (mS I1 J) = some (none, mS I' J) := by
        intro t0 ht
        have e := l56 p t0 none hpn (nD s) 0 I1 h1 (by omega)
        rw [show accD s p t0 0 = t0 from rfl] at e
        have ek : accD s p t0 (nD s) = knw s p := bit_ext fun r hr => by rw [bit_acc (by omega) hr, bk p r hr, ht r hr]
        obtain ⟨I', hF, hA, hr⟩ := ih (p + 1) (wI I1 196 p (accD s p t0 (nD s))) (fun a ha => by rw [wI_F1 a ha, h1 a ha]) (by omega) (fun q hq => by
          by_cases e : q = p
          · subst e; rw [wI_eq, ek]
          · rw [wI_nk e]; exact hk q (by omega))
        exact ⟨I', hF, hA, by rw [e, hr]⟩
      have hrp := hW.per hpn
      rcases hrp.1 with ⟨hT, _⟩ | ⟨hc, _⟩ | ⟨hT, _⟩
      · have hcn : ¬ isCp s p := fun h => by rcases h with h | h | h <;> rw [hT] at h <;> exact absurd h (by decide)
        rw [e_41_2]
        simp only [lc_195, lr_195_0, lr_195_1, lc_196, ll_196, w_C W1, w_R0 W1, w_C1 W1, w_L1 W1, w_rp W1 (show p < 12 by omega), w_cp W1 (show p < 12 by omega), h2.ppl, hW.nP.2, n_lt (show p < 2 ^ 31 by omega) (show nP s < 2 ^ 31 by omega), n_ltt hpn, i0c, i0z, i0l, h2.pF hpn (show 1 < 8 by decide), h2.pF hpn (show 2 < 8 by decide), h2.pF hpn (show 3 < 8 by decide), h2.pF hpn (show 5 < 8 by decide), c_149, k42 h2 hW, nn_0_1, nn_0_2, nn_0_3, nn_0_4, nn_0_5, nn_0_6, nn_0_7, nn_0_8, nn_1_0, nn_1_2, nn_1_3, nn_1_4, nn_1_5, nn_1_6, nn_1_7, nn_1_8, nn_2_0, nn_2_1, nn_2_3, nn_2_4, nn_2_5, nn_2_6, nn_2_7, nn_2_8, nn_3_0, nn_3_1, nn_3_2, nn_3_4, nn_3_5, nn_3_6, nn_3_7, nn_3_8, nn_4_0, nn_4_1, nn_4_2, nn_4_3, nn_4_5, nn_4_6, nn_4_7, nn_4_8, nn_5_0, nn_5_1, nn_5_2, nn_5_3, nn_5_4, nn_5_6, nn_5_7, nn_5_8, nn_6_0, nn_6_1, nn_6_2, nn_6_3, nn_6_4, nn_6_5, nn_6_7, nn_6_8, nn_7_0, nn_7_1, nn_7_2, nn_7_3, nn_7_4, nn_7_5, nn_7_6, nn_7_8, nn_8_0, nn_8_1, nn_8_2, nn_8_3, nn_8_4, nn_8_5, nn_8_6, nn_8_7, nq_0, nq_1, nq_2, nq_3, nq_4, nq_5, nq_6, nq_7, nq_8, bq_s, mS_c, mS_l, mS_r, mS_i, mS_j, mS_pi, mS_pj, lt_st, bq_s, bV_s, bI_s, bJ_s, bA_s, nz_0, nc_0, nz_1, nc_1, nz_2, nc_2, nz_3, nc_3, nz_4, nc_4, nz_5, nc_5, nz_6, nc_6, nz_7, nc_7, nz_8, nc_8, nz_9, nc_9, nz_10, nc_10, nz_11, nc_11, nz_12, nc_12, if_true, if_false, eq_self, true_and, and_true, false_or, or_false, true_or, or_true, false_and, and_false, not_true, not_false_eq_true, ne_eq, ite_self, ite_not, ↓reduceIte, n_101, n_107, n_11, hT]
        exact go _ fun r hr => by rw [bit_n0, Bool.false_or, rem_o hcn (by rw [hT]; decide)]
      · obtain ⟨q, hq, e2⟩ := WFcq hW hpn hc
        have q0c : (nI (q)).toNatClampNeg = q := nI_clamp (by omega)
        have q0z : (nI (q) < 0) = False := n_ge0 (by omega)
        have q0l : (12 ≤ q) = False := n_lef (by omega)
        have hkq := hk q hq
        have key : ∀ t0 : Int32, (t0 = (knw s q &&& tldU s (pF s p 5) (nD s)) ∧ ¬ pF s p 1 = nI 3 ∨ t0 = (knw s q &&& tldU s (pF s p 5) (nD s)) &&& nI 341 ∧ pF s p 1 = nI 3) → ∀ r, r < 32 → (bit t0 r || (decide (r < nD s) && decide (dF s r 0 = nI p))) = (decide (r < nD s) && rem s r p) := by
          intro t0 ht r hr
          rw [rem_c hW hpn hc hq e2]
          have bt : bit (tldU s (pF s p 5) (nD s)) r = (decide (r < nD s) && !decide (pF s p 5 < dF s r 1)) := by unfold tldU; rw [bit_mk (by omega) hr]
          by_cases hd : r < nD s
          · rcases ht with ⟨rfl, h3⟩ | ⟨rfl, h3⟩
            · rw [bit_and, bk q r hr, bt, decide_eq_true hd, decide_eq_false h3]
              cases rem s r q <;> cases decide (pF s p 5 < dF s r 1) <;> cases decide (dF s r 0 = nI p) <;> rfl
            · rw [bit_and, bit_and, bk q r hr, bt, decide_eq_true hd, decide_eq_true h3, b341 r hr, decide_eq_true (show r < 10 by omega)]
              cases rem s r q <;> cases decide (pF s p 5 < dF s r 1) <;> cases decide (dF s r 0 = nI p) <;> cases decide (r % 2 = 0) <;> rfl
          · rw [decide_eq_false hd]
            rcases ht with ⟨rfl, h3⟩ | ⟨rfl, h3⟩
            · rw [bit_and, bk q r hr, decide_eq_false hd]; rfl
            · rw [bit_and, bit_and, bk q r hr, decide_eq_false hd]; rfl
        rcases hc with hT | hT | hT
        · rw [e_41_2]
          simp only [lc_195, lr_195_0, lr_195_1, lc_196, ll_196, w_C W1, w_R0 W1, w_C1 W1, w_L1 W1, w_rp W1 (show p < 12 by omega), w_cp W1 (show p < 12 by omega), h2.ppl, hW.nP.2, n_lt (show p < 2 ^ 31 by omega) (show nP s < 2 ^ 31 by omega), n_ltt hpn, i0c, i0z, i0l, h2.pF hpn (show 1 < 8 by decide), h2.pF hpn (show 2 < 8 by decide), h2.pF hpn (show 3 < 8 by decide), h2.pF hpn (show 5 < 8 by decide), c_149, k42 h2 hW, nn_0_1, nn_0_2, nn_0_3, nn_0_4, nn_0_5, nn_0_6, nn_0_7, nn_0_8, nn_1_0, nn_1_2, nn_1_3, nn_1_4, nn_1_5, nn_1_6, nn_1_7, nn_1_8, nn_2_0, nn_2_1, nn_2_3, nn_2_4, nn_2_5, nn_2_6, nn_2_7, nn_2_8, nn_3_0, nn_3_1, nn_3_2, nn_3_4, nn_3_5, nn_3_6, nn_3_7, nn_3_8, nn_4_0, nn_4_1, nn_4_2, nn_4_3, nn_4_5, nn_4_6, nn_4_7, nn_4_8, nn_5_0, nn_5_1, nn_5_2, nn_5_3, nn_5_4, nn_5_6, nn_5_7, nn_5_8, nn_6_0, nn_6_1, nn_6_2, nn_6_3, nn_6_4, nn_6_5, nn_6_7, nn_6_8, nn_7_0, nn_7_1, nn_7_2, nn_7_3, nn_7_4, nn_7_5, nn_7_6, nn_7_8, nn_8_0, nn_8_1, nn_8_2, nn_8_3, nn_8_4, nn_8_5, nn_8_6, nn_8_7, nq_0, nq_1, nq_2, nq_3, nq_4, nq_5, nq_6, nq_7, nq_8, bq_s, mS_c, mS_l, mS_r, mS_i, mS_j, mS_pi, mS_pj, lt_st, bq_s, bV_s, bI_s, bJ_s, bA_s, nz_0, nc_0, nz_1, nc_1, nz_2, nc_2, nz_3, nc_3, nz_4, nc_4, nz_5, nc_5, nz_6, nc_6, nz_7, nc_7, nz_8, nc_8, nz_9, nc_9, nz_10, nc_10, nz_11, nc_11, nz_12, nc_12, if_true, if_false, eq_self, true_and, and_true, false_or, or_false, true_or, or_true, false_and, and_false, not_true, not_false_eq_true, ne_eq, ite_self, ite_not, ↓reduceIte, n_101, n_107, n_11, hT, e2, hkq, q0c, q0z, q0l]
          exact go _ (key _ (Or.inl ⟨rfl, by rw [hT]; decide⟩))
        · rw [e_41_2]
          simp only [lc_195, lr_195_0, lr_195_1, lc_196, ll_196, w_C W1, w_R0 W1, w_C1 W1, w_L1 W1, w_rp W1 (show p < 12 by omega), w_cp W1 (show p < 12 by omega), h2.ppl, hW.nP.2, n_lt (show p < 2 ^ 31 by omega) (show nP s < 2 ^ 31 by omega), n_ltt hpn, i0c, i0z, i0l, h2.pF hpn (show 1 < 8 by decide), h2.pF hpn (show 2 < 8 by decide), h2.pF hpn (show 3 < 8 by decide), h2.pF hpn (show 5 < 8 by decide), c_149, k42 h2 hW, nn_0_1, nn_0_2, nn_0_3, nn_0_4, nn_0_5, nn_0_6, nn_0_7, nn_0_8, nn_1_0, nn_1_2, nn_1_3, nn_1_4, nn_1_5, nn_1_6, nn_1_7, nn_1_8, nn_2_0, nn_2_1, nn_2_3, nn_2_4, nn_2_5, nn_2_6, nn_2_7, nn_2_8, nn_3_0, nn_3_1, nn_3_2, nn_3_4, nn_3_5, nn_3_6, nn_3_7, nn_3_8, nn_4_0, nn_4_1, nn_4_2, nn_4_3, nn_4_5, nn_4_6, nn_4_7, nn_4_8, nn_5_0, nn_5_1, nn_5_2, nn_5_3, nn_5_4, nn_5_6, nn_5_7, nn_5_8, nn_6_0, nn_6_1, nn_6_2, nn_6_3, nn_6_4, nn_6_5, nn_6_7, nn_6_8, nn_7_0, nn_7_1, nn_7_2, nn_7_3, nn_7_4, nn_7_5, nn_7_6, nn_7_8, nn_8_0, nn_8_1, nn_8_2, nn_8_3, nn_8_4, nn_8_5, nn_8_6, nn_8_7, nq_0, nq_1, nq_2, nq_3, nq_4, nq_5, nq_6, nq_7, nq_8, bq_s, mS_c, mS_l, mS_r, mS_i, mS_j, mS_pi, mS_pj, lt_st, bq_s, bV_s, bI_s, bJ_s, bA_s, nz_0, nc_0, nz_1, nc_1, nz_2, nc_2, nz_3, nc_3, nz_4, nc_4, nz_5, nc_5, nz_6, nc_6, nz_7, nc_7, nz_8, nc_8, nz_9, nc_9, nz_10, nc_10, nz_11, nc_11, nz_12, nc_12, if_true, if_false, eq_self, true_and, and_true, false_or, or_false, true_or, or_true, false_and, and_false, not_true, not_false_eq_true, ne_eq, ite_self, ite_not, ↓reduceIte, n_101, n_107, n_11, hT, e2, hkq, q0c, q0z, q0l]
          exact go _ (key _ (Or.inr ⟨rfl, hT⟩))
        · rw [e_41_2]
          simp only [lc_195, lr_195_0, lr_195_1, lc_196, ll_196, w_C W1, w_R0 W1, w_C1 W1, w_L1 W1, w_rp W1 (show p < 12 by omega), w_cp W1 (show p < 12 by omega), h2.ppl, hW.nP.2, n_lt (show p < 2 ^ 31 by omega) (show nP s < 2 ^ 31 by omega), n_ltt hpn, i0c, i0z, i0l, h2.pF hpn (show 1 < 8 by decide), h2.pF hpn (show 2 < 8 by decide), h2.pF hpn (show 3 < 8 by decide), h2.pF hpn (show 5 < 8 by decide), c_149, k42 h2 hW, nn_0_1, nn_0_2, nn_0_3, nn_0_4, nn_0_5, nn_0_6, nn_0_7, nn_0_8, nn_1_0, nn_1_2, nn_1_3, nn_1_4, nn_1_5, nn_1_6, nn_1_7, nn_1_8, nn_2_0, nn_2_1, nn_2_3, nn_2_4, nn_2_5, nn_2_6, nn_2_7, nn_2_8, nn_3_0, nn_3_1, nn_3_2, nn_3_4, nn_3_5, nn_3_6, nn_3_7, nn_3_8, nn_4_0, nn_4_1, nn_4_2, nn_4_3, nn_4_5, nn_4_6, nn_4_7, nn_4_8, nn_5_0, nn_5_1, nn_5_2, nn_5_3, nn_5_4, nn_5_6, nn_5_7, nn_5_8, nn_6_0, nn_6_1, nn_6_2, nn_6_3, nn_6_4, nn_6_5, nn_6_7, nn_6_8, nn_7_0, nn_7_1, nn_7_2, nn_7_3, nn_7_4, nn_7_5, nn_7_6, nn_7_8, nn_8_0, nn_8_1, nn_8_2, nn_8_3, nn_8_4, nn_8_5, nn_8_6, nn_8_7, nq_0, nq_1, nq_2, nq_3, nq_4, nq_5, nq_6, nq_7, nq_8, bq_s, mS_c, mS_l, mS_r, mS_i, mS_j, mS_pi, mS_pj, lt_st, bq_s, bV_s, bI_s, bJ_s, bA_s, nz_0, nc_0, nz_1, nc_1, nz_2, nc_2, nz_3, nc_3, nz_4, nc_4, nz_5, nc_5, nz_6, nc_6, nz_7, nc_7, nz_8, nc_8, nz_9, nc_9, nz_10, nc_10, nz_11, nc_11, nz_12, nc_12, if_true, if_false, eq_self, true_and, and_true, false_or, or_false, true_or, or_true, false_and, and_false, not_true, not_false_eq_true, ne_eq, ite_self, ite_not, ↓reduceIte, n_101, n_107, n_11, hT, e2, hkq, q0c, q0z, q0l]
          exact go _ (key _ (Or.inl ⟨rfl, by rw [hT]; decide⟩))
      · obtain ⟨q, r, hq, hr, e2, e3, _⟩ := WFjq hW hpn hT
        have q0c : (nI (q)).toNatClampNeg = q := nI_clamp (by omega)
        have q0z : (nI (q) < 0) = False := n_ge0 (by omega)
        have q0l : (12 ≤ q) = False := n_lef (by omega)
        have r0c : (nI (r)).toNatClampNeg = r := nI_clamp (by omega)
        have r0z : (nI (r) < 0) = False := n_ge0 (by omega)
        have r0l : (12 ≤ r) = False := n_lef (by omega)
        have hkq := hk q hq
        have hkr := hk r hr
        rw [e_41_2]
        simp only [lc_195, lr_195_0, lr_195_1, lc_196, ll_196, w_C W1, w_R0 W1, w_C1 W1, w_L1 W1, w_rp W1 (show p < 12 by omega), w_cp W1 (show p < 12 by omega), h2.ppl, hW.nP.2, n_lt (show p < 2 ^ 31 by omega) (show nP s < 2 ^ 31 by omega), n_ltt hpn, i0c, i0z, i0l, h2.pF hpn (show 1 < 8 by decide), h2.pF hpn (show 2 < 8 by decide), h2.pF hpn (show 3 < 8 by decide), h2.pF hpn (show 5 < 8 by decide), c_149, k42 h2 hW, nn_0_1, nn_0_2, nn_0_3, nn_0_4, nn_0_5, nn_0_6, nn_0_7, nn_0_8, nn_1_0, nn_1_2, nn_1_3, nn_1_4, nn_1_5, nn_1_6, nn_1_7, nn_1_8, nn_2_0, nn_2_1, nn_2_3, nn_2_4, nn_2_5, nn_2_6, nn_2_7, nn_2_8, nn_3_0, nn_3_1, nn_3_2, nn_3_4, nn_3_5, nn_3_6, nn_3_7, nn_3_8, nn_4_0, nn_4_1, nn_4_2, nn_4_3, nn_4_5, nn_4_6, nn_4_7, nn_4_8, nn_5_0, nn_5_1, nn_5_2, nn_5_3, nn_5_4, nn_5_6, nn_5_7, nn_5_8, nn_6_0, nn_6_1, nn_6_2, nn_6_3, nn_6_4, nn_6_5, nn_6_7, nn_6_8, nn_7_0, nn_7_1, nn_7_2, nn_7_3, nn_7_4, nn_7_5, nn_7_6, nn_7_8, nn_8_0, nn_8_1, nn_8_2, nn_8_3, nn_8_4, nn_8_5, nn_8_6, nn_8_7, nq_0, nq_1, nq_2, nq_3, nq_4, nq_5, nq_6, nq_7, nq_8, bq_s, mS_c, mS_l, mS_r, mS_i, mS_j, mS_pi, mS_pj, lt_st, bq_s, bV_s, bI_s, bJ_s, bA_s, nz_0, nc_0, nz_1, nc_1, nz_2, nc_2, nz_3, nc_3, nz_4, nc_4, nz_5, nc_5, nz_6, nc_6, nz_7, nc_7, nz_8, nc_8, nz_9, nc_9, nz_10, nc_10, nz_11, nc_11, nz_12, nc_12, if_true, if_false, eq_self, true_and, and_true, false_or, or_false, true_or, or_true, false_and, and_false, not_true, not_false_eq_true, ne_eq, ite_self, ite_not, ↓reduceIte, n_101, n_107, n_11, hT, e2, e3, hkq, hkr, q0c, q0z, q0l, r0c, r0z, r0l]
        exact go _ fun i hi => by
          rw [bit_or, bk q i hi, bk r i hi, rem_j hW hpn hT hq hr e2 e3]
          by_cases hd : i < nD s
          · rw [decide_eq_true hd]
            cases rem s i q <;> cases rem s i r <;> cases decide (dF s i 0 = nI p) <;> rfl
          · rw [decide_eq_false hd]; rfl
  obtain ⟨I', hF, hA, hr⟩ := lp (nP s) 0 I (fun _ _ => rfl) (by omega) (fun q hq => by omega)
  refine ⟨I', hF, hA, ?_⟩
  rw [c_41 lc_195]
  exact hr
end C3
