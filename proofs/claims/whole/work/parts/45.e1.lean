/-! ===== weddings: the sides ===== -/
def m1 : Int32 := Int32.ofInt (-1)
def wcS (v : Int32) (q p t : Int32) : Int32 := if v = nI 1 then (t &&& ((nI 1 <<< (q &&& 31)) ^^^ m1)) ||| (nI 1 <<< (p &&& 31)) else if v = nI 2 then t ||| (nI 1 <<< (p &&& 31)) else if v = nI 3 then t &&& ((nI 1 <<< (q &&& 31)) ^^^ m1) else t
noncomputable def sdS (s : Rw) (e p : Nat) (day t : Int32) : Int32 :=
  if eF s e 0 = nI 3 then (if t &&& ((nI 1 <<< (pF s p 2 &&& 31)) ||| (nI 1 <<< (pF s p 3 &&& 31))) = 0 then t else (t &&& (((nI 1 <<< (pF s p 2 &&& 31)) ||| (nI 1 <<< (pF s p 3 &&& 31))) ^^^ m1)) ||| (nI 1 <<< (nI p &&& 31)))
  else if eF s e 0 = nI 4 then t &&& ((nI 1 <<< (nI p &&& 31)) ^^^ m1)
  else @ite _ (mv s e p day) (Classical.propDecidable _) (if (t >>> (pF s p 2 &&& 31)) &&& nI 1 = 0 then t else wcS (onE s (nI 4) e p (nI 0) (nI 0)) (pF s p 2) (nI p) t) t
noncomputable def sdR (s : Rw) (day : Int32) : Nat → Nat → Int32 → Int32
  | 0, _, t => t
  | n + 1, e, t => sdR s day n (e + 1) (sdS s e (eF s e 1).toNatClampNeg day t)
noncomputable def side (s : Rw) (k f : Nat) : Int32 := sdR s (wF s k 2) (nE s - (wF s k 3).toNatClampNeg) (wF s k 3).toNatClampNeg (nI 1 <<< (wF s k f &&& 31))
noncomputable def acU (s : Rw) (p : Nat) : Nat → Int32
  | 0 => nI 0
  | k + 1 => (acU s p k ||| (if bit (side s k 0) p then side s k 1 else nI 0)) ||| (if bit (side s k 1) p then side s k 0 else nI 0)
noncomputable def acr (s : Rw) (p : Nat) : Int32 := acU s p (nW s) &&& ((nI 1 <<< (nI p &&& 31)) ^^^ m1)
noncomputable def v_wed (s : Rw) (x : Int32) : Int32 := if isP s x then acr s x.toNatClampNeg else Int32.ofInt (-1)
section E1
variable {I : mI} {J : mJ} {w p q e c d l b g r k : Nat} {s : Rw} {x y z key day : Int32} {h : Nat → Nat}
theorem WFwd (hW : WF s) (hk : k < nW s) : (∃ p, p < nP s ∧ wF s k 0 = nI p) ∧ (∃ p, p < nP s ∧ wF s k 1 = nI p) ∧ (∃ d, d ≤ 999 ∧ wF s k 2 = nI d) ∧ (∃ e, e ≤ nE s ∧ wF s k 3 = nI e) := hW.2.2.2.2.2.2.2.1 k hk
theorem acU_s : acU s p (k + 1) = (acU s p k ||| (if bit (side s k 0) p then side s k 1 else nI 0)) ||| (if bit (side s k 1) p then side s k 0 else nI 0) := rfl
theorem m1e : Int32.ofInt (-1) = m1 := rfl
theorem k60 {t : Int32} (h : Rep I 1 s) (hW : WF s) (he : e < nE s) (hp : p < nP s) (h1 : eF s e 1 = nI p) : ∃ I', F1 13 I' I ∧ am_cal (d + 5) 60 [.ref 194, .int t, .ref (1 + 25 + e)] (mS I J) = some (some (.int (wcS (onE s (nI 4) e p (nI 0) (nI 0)) (pF s p 2) (nI p) t)), mS I' J) := by
  have h12 := hW.nP.1
  have h18 := hW.nE.1
  have j0c : (nI (p)).toNatClampNeg = p := nI_clamp (by omega)
  have j0z : (nI (p) < 0) = False := n_ge0 (by omega)
  have j0l : (12 ≤ p) = False := n_lef (by omega)
  have v1 := h.eF he (show 1 < 3 by decide)
  have v2 := h.eF he (show 2 < 3 by decide)
  rw [h1] at v1
  obtain ⟨I', hF, hr⟩ := k86 (d := d) (J := J) (key := nI 4) (y := eF s e 2) (a := nI 0) (h5 := nI 0) W1 h hW hp
  have hr : am_cal (d + 4) 86 [.ref 1, .int (nI 4), .int (nI p), .int (eF s e 2), .int (nI 0), .int (nI 0)] (mS I J) = some (some (.int (onE s (nI 4) e p (nI 0) (nI 0))), mS I' J) := hr
  refine ⟨I', hF, ?_⟩
  generalize onE s (nI 4) e p (nI 0) (nI 0) = v at hr ⊢
  rw [c_60 lc_194]
  simp only [lc_194, lr_194_0, w_C W1, w_R0 W1, w_C1 W1, w_L1 W1, w_cp W1 (show p < 12 by omega), w_rp W1 (show p < 12 by omega), w_ce W1 (show e < 18 by omega), j0c, j0z, j0l, v1, v2, h.pF hp (show 2 < 8 by decide), hr, m1e, bq_s, mS_c, mS_l, mS_r, mS_i, mS_j, mS_pi, mS_pj, lt_st, bq_s, bV_s, bI_s, bJ_s, bA_s, nz_0, nc_0, nz_1, nc_1, nz_2, nc_2, nz_3, nc_3, nz_4, nc_4, nz_5, nc_5, nz_6, nc_6, nz_7, nc_7, nz_8, nc_8, nz_9, nc_9, nz_10, nc_10, nz_11, nc_11, nz_12, nc_12, if_true, if_false, eq_self, true_and, and_true, false_or, or_false, true_or, or_true, false_and, and_false, not_true, not_false_eq_true, ne_eq, ite_self, ite_not, ↓reduceIte, n_101, n_107, n_11]
  unfold wcS
  by_cases hv1 : v = nI 1
  · simp only [hv1, bq_s, mS_c, mS_l, mS_r, mS_i, mS_j, mS_pi, mS_pj, lt_st, bq_s, bV_s, bI_s, bJ_s, bA_s, nz_0, nc_0, nz_1, nc_1, nz_2, nc_2, nz_3, nc_3, nz_4, nc_4, nz_5, nc_5, nz_6, nc_6, nz_7, nc_7, nz_8, nc_8, nz_9, nc_9, nz_10, nc_10, nz_11, nc_11, nz_12, nc_12, if_true, if_false, eq_self, true_and, and_true, false_or, or_false, true_or, or_true, false_and, and_false, not_true, not_false_eq_true, ne_eq, ite_self, ite_not, ↓reduceIte, n_101, n_107, n_11]
  · by_cases hv2 : v = nI 2
    · simp only [hv2, nn_0_1, nn_0_2, nn_0_3, nn_0_4, nn_0_5, nn_0_6, nn_0_7, nn_0_8, nn_1_0, nn_1_2, nn_1_3, nn_1_4, nn_1_5, nn_1_6, nn_1_7, nn_1_8, nn_2_0, nn_2_1, nn_2_3, nn_2_4, nn_2_5, nn_2_6, nn_2_7, nn_2_8, nn_3_0, nn_3_1, nn_3_2, nn_3_4, nn_3_5, nn_3_6, nn_3_7, nn_3_8, nn_4_0, nn_4_1, nn_4_2, nn_4_3, nn_4_5, nn_4_6, nn_4_7, nn_4_8, nn_5_0, nn_5_1, nn_5_2, nn_5_3, nn_5_4, nn_5_6, nn_5_7, nn_5_8, nn_6_0, nn_6_1, nn_6_2, nn_6_3, nn_6_4, nn_6_5, nn_6_7, nn_6_8, nn_7_0, nn_7_1, nn_7_2, nn_7_3, nn_7_4, nn_7_5, nn_7_6, nn_7_8, nn_8_0, nn_8_1, nn_8_2, nn_8_3, nn_8_4, nn_8_5, nn_8_6, nn_8_7, nq_0, nq_1, nq_2, nq_3, nq_4, nq_5, nq_6, nq_7, nq_8, bq_s, mS_c, mS_l, mS_r, mS_i, mS_j, mS_pi, mS_pj, lt_st, bq_s, bV_s, bI_s, bJ_s, bA_s, nz_0, nc_0, nz_1, nc_1, nz_2, nc_2, nz_3, nc_3, nz_4, nc_4, nz_5, nc_5, nz_6, nc_6, nz_7, nc_7, nz_8, nc_8, nz_9, nc_9, nz_10, nc_10, nz_11, nc_11, nz_12, nc_12, if_true, if_false, eq_self, true_and, and_true, false_or, or_false, true_or, or_true, false_and, and_false, not_true, not_false_eq_true, ne_eq, ite_self, ite_not, ↓reduceIte, n_101, n_107, n_11]
    · by_cases hv3 : v = nI 3
      · simp only [hv3, nn_0_1, nn_0_2, nn_0_3, nn_0_4, nn_0_5, nn_0_6, nn_0_7, nn_0_8, nn_1_0, nn_1_2, nn_1_3, nn_1_4, nn_1_5, nn_1_6, nn_1_7, nn_1_8, nn_2_0, nn_2_1, nn_2_3, nn_2_4, nn_2_5, nn_2_6, nn_2_7, nn_2_8, nn_3_0, nn_3_1, nn_3_2, nn_3_4, nn_3_5, nn_3_6, nn_3_7, nn_3_8, nn_4_0, nn_4_1, nn_4_2, nn_4_3, nn_4_5, nn_4_6, nn_4_7, nn_4_8, nn_5_0, nn_5_1, nn_5_2, nn_5_3, nn_5_4, nn_5_6, nn_5_7, nn_5_8, nn_6_0, nn_6_1, nn_6_2, nn_6_3, nn_6_4, nn_6_5, nn_6_7, nn_6_8, nn_7_0, nn_7_1, nn_7_2, nn_7_3, nn_7_4, nn_7_5, nn_7_6, nn_7_8, nn_8_0, nn_8_1, nn_8_2, nn_8_3, nn_8_4, nn_8_5, nn_8_6, nn_8_7, nq_0, nq_1, nq_2, nq_3, nq_4, nq_5, nq_6, nq_7, nq_8, bq_s, mS_c, mS_l, mS_r, mS_i, mS_j, mS_pi, mS_pj, lt_st, bq_s, bV_s, bI_s, bJ_s, bA_s, nz_0, nc_0, nz_1, nc_1, nz_2, nc_2, nz_3, nc_3, nz_4, nc_4, nz_5, nc_5, nz_6, nc_6, nz_7, nc_7, nz_8, nc_8, nz_9, nc_9, nz_10, nc_10, nz_11, nc_11, nz_12, nc_12, if_true, if_false, eq_self, true_and, and_true, false_or, or_false, true_or, or_true, false_and, and_false, not_true, not_false_eq_true, ne_eq, ite_self, ite_not, ↓reduceIte, n_101, n_107, n_11]
      · simp only [hv1, hv2, hv3, bq_s, mS_c, mS_l, mS_r, mS_i, mS_j, mS_pi, mS_pj, lt_st, bq_s, bV_s, bI_s, bJ_s, bA_s, nz_0, nc_0, nz_1, nc_1, nz_2, nc_2, nz_3, nc_3, nz_4, nc_4, nz_5, nc_5, nz_6, nc_6, nz_7, nc_7, nz_8, nc_8, nz_9, nc_9, nz_10, nc_10, nz_11, nc_11, nz_12, nc_12, if_true, if_false, eq_self, true_and, and_true, false_or, or_false, true_or, or_true, false_and, and_false, not_true, not_false_eq_true, ne_eq, ite_self, ite_not, ↓reduceIte, n_101, n_107, n_11]
theorem k59 {f : Nat} (hf : f < 2) (h : Rep I 1 s) (hW : WF s) (hk : k < nW s) : ∃ I', F1 13 I' I ∧ am_cal (d + 6) 59 [.ref 194, .ref (1 + 55 + k), .int (wF s k f)] (mS I J) = some (some (.int (side s k f)), mS I' J) := by
  have h12 := hW.nP.1
  have h18 := hW.nE.1
  have h8 := hW.nW.1
  obtain ⟨_, _, ⟨dd, _, ed⟩, e0, he0, e3⟩ := WFwd hW hk
  have lp : ∀ n e (t : Int32) (I1 : mI), e + n = nE s → F1 13 I1 I → ∃ I', F1 13 I' I ∧ am_X (am_cal (d + 5)) 59 7 [.ref 194, .ref (1 + 55 + k), .null, .int t, .int (nI e), .null, .null, .null] [] (mS I1 J) = some (some (.int (sdR s (wF s k 2) n e t)), mS I' J) := by
    intro n
    induction n with
    | zero =>
      intro e t I1 he h1
      have hR1 := FC.rep h hW (FC.f1 h1)
      refine ⟨I1, h1, ?_⟩
      rw [e_59_7]
      simp only [lc_194, lr_194_0, w_C W1, hR1.evs, hW.nE.2, n_lt (show e < 2 ^ 31 by omega) (show nE s < 2 ^ 31 by omega), n_ltf (show nE s ≤ e by omega), bq_s, mS_c, mS_l, mS_r, mS_i, mS_j, mS_pi, mS_pj, lt_st, bq_s, bV_s, bI_s, bJ_s, bA_s, nz_0, nc_0, nz_1, nc_1, nz_2, nc_2, nz_3, nc_3, nz_4, nc_4, nz_5, nc_5, nz_6, nc_6, nz_7, nc_7, nz_8, nc_8, nz_9, nc_9, nz_10, nc_10, nz_11, nc_11, nz_12, nc_12, if_true, if_false, eq_self, true_and, and_true, false_or, or_false, true_or, or_true, false_and, and_false, not_true, not_false_eq_true, ne_eq, ite_self, ite_not, ↓reduceIte, n_101, n_107, n_11]
      rfl
    | succ n ih =>
      intro e t I1 he h1
      have hen : e < nE s := by omega
      have hR1 := FC.rep h hW (FC.f1 h1)
      obtain ⟨p, hp, hep, hby, hs⟩ := WFev hW hen
      have i0c : (nI (e)).toNatClampNeg = e := nI_clamp (by omega)
      have i0z : (nI (e) < 0) = False := n_ge0 (by omega)
      have i0l : (18 ≤ e) = False := n_lef (by omega)
      have j0c : (nI (p)).toNatClampNeg = p := nI_clamp (by omega)
      have j0z : (nI (p) < 0) = False := n_ge0 (by omega)
      have j0l : (12 ≤ p) = False := n_lef (by omega)
      have v0 := hR1.eF hen (show 0 < 3 by decide)
      have v1 := hR1.eF hen (show 1 < 3 by decide)
      rw [hep] at v1
      have w2 := hR1.wF hk (show 2 < 4 by decide)
      have nx : ∀ (I2 : mI) (t' : Int32), F1 13 I2 I → t' = sdS s e p (wF s k 2) t → ∃ I', F1 13 I' I ∧ am_X (am_cal (d + 5)) 59 7 [.ref 194, .ref (1 + 55 + k), .null, .int t', .int (nI (e + 1)), .null, .null, .null] [] (mS I2 J) = some (some (.int (sdR s (wF s k 2) (n + 1) e t)), mS I' J) := fun I2 t' h2 ht => by
        obtain ⟨I', a, b⟩ := ih (e + 1) t' I2 (by omega) h2
        refine ⟨I', a, ?_⟩
        rw [b, ht]
        show _ = some (some (Value.int (sdR s (wF s k 2) n (e + 1) (sdS s e (eF s e 1).toNatClampNeg (wF s k 2) t))), _)
        rw [hep, nI_clamp (by omega)]
      have h88 := k88 (d := d + 4) (J := J) (day := wF s k 2) W1 hR1 hW hen hp hep
      obtain ⟨I2, hF2, hr2⟩ := k60 (d := d) (J := J) (t := t) hR1 hW hen hp hep
      rw [e_59_7]
      simp only [lc_194, lr_194_0, w_C W1, w_R0 W1, w_R1 W1, w_C1 W1, w_L1 W1, w_C2 W1, w_L2 W1, w_cp W1 (show p < 12 by omega), w_rp W1 (show p < 12 by omega), w_ce W1 (show e < 18 by omega), w_re W1 (show e < 18 by omega), w_cd W1 (show k < 8 by omega), hR1.evs, hW.nE.2, n_lt (show e < 2 ^ 31 by omega) (show nE s < 2 ^ 31 by omega), n_ltt hen, i0c, i0z, i0l, j0c, j0z, j0l, v0, v1, w2, hR1.pF hp (show 2 < 8 by decide), hR1.pF hp (show 3 < 8 by decide), h88, hr2, m1e, nI_add, n_107, bq_s, mS_c, mS_l, mS_r, mS_i, mS_j, mS_pi, mS_pj, lt_st, bq_s, bV_s, bI_s, bJ_s, bA_s, nz_0, nc_0, nz_1, nc_1, nz_2, nc_2, nz_3, nc_3, nz_4, nc_4, nz_5, nc_5, nz_6, nc_6, nz_7, nc_7, nz_8, nc_8, nz_9, nc_9, nz_10, nc_10, nz_11, nc_11, nz_12, nc_12, if_true, if_false, eq_self, true_and, and_true, false_or, or_false, true_or, or_true, false_and, and_false, not_true, not_false_eq_true, ne_eq, ite_self, ite_not, ↓reduceIte, n_101, n_107, n_11]
      by_cases s3 : eF s e 0 = nI 3
      · rw [if_pos s3]
        by_cases hz : t &&& ((nI 1 <<< (pF s p 2 &&& 31)) ||| (nI 1 <<< (pF s p 3 &&& 31))) = 0
        · rw [if_pos hz]
          exact nx I1 _ h1 (by unfold sdS; rw [if_pos s3, if_pos hz])
        · rw [if_neg hz]
          exact nx I1 _ h1 (by unfold sdS; rw [if_pos s3, if_neg hz])
      · rw [if_neg s3]
        by_cases s4 : eF s e 0 = nI 4
        · rw [if_pos s4]
          exact nx I1 _ h1 (by unfold sdS; rw [if_neg s3, if_pos s4])
        · rw [if_neg s4]
          by_cases hm : mv s e p (wF s k 2)
          · rw [if_b2t hm]
            by_cases hz : (t >>> (pF s p 2 &&& 31)) &&& nI 1 = 0
            · rw [if_pos hz]
              exact nx I1 _ h1 (by unfold sdS; rw [if_neg s3, if_neg s4, if_pos hm, if_pos hz])
            · rw [if_neg hz]
              exact nx I2 _ (fun a ha => by rw [hF2 a ha, h1 a ha]) (by unfold sdS; rw [if_neg s3, if_neg s4, if_pos hm, if_neg hz])
          · rw [if_b2f hm]
            exact nx I1 _ h1 (by unfold sdS; rw [if_neg s3, if_neg s4, if_neg hm])
  obtain ⟨I', a, b⟩ := lp (nE s - e0) e0 (nI 1 <<< (wF s k f &&& 31)) I (by omega) (fun _ _ => rfl)
  refine ⟨I', a, ?_⟩
  have w3 := h.wF hk (show 3 < 4 by decide)
  rw [e3] at w3
  rw [c_59 lc_194]
  simp only [w_cd W1 (show k < 8 by omega), w3, bq_s, mS_c, mS_l, mS_r, mS_i, mS_j, mS_pi, mS_pj, lt_st, bq_s, bV_s, bI_s, bJ_s, bA_s, nz_0, nc_0, nz_1, nc_1, nz_2, nc_2, nz_3, nc_3, nz_4, nc_4, nz_5, nc_5, nz_6, nc_6, nz_7, nc_7, nz_8, nc_8, nz_9, nc_9, nz_10, nc_10, nz_11, nc_11, nz_12, nc_12, if_true, if_false, eq_self, true_and, and_true, false_or, or_false, true_or, or_true, false_and, and_false, not_true, not_false_eq_true, ne_eq, ite_self, ite_not, ↓reduceIte, n_101, n_107, n_11]
  unfold side
  rw [e3, nI_clamp (by omega)]
  exact b
theorem k58 (h : Rep I 1 s) (hW : WF s) (hp : p < nP s) : ∃ I', FC I' I ∧ am_cal (d + 7) 58 [.ref 194, .int (nI p)] (mS I J) = some (some (.int (acr s p)), mS I' J) := by
  have h12 := hW.nP.1
  have h8 := hW.nW.1
  have lp : ∀ n k (I1 : mI), k + n = nW s → F1 13 I1 I → ∃ I', F1 13 I' I ∧ am_X (am_cal (d + 6)) 58 4 [.ref 194, .int (nI p), .int (acU s p k), .int (nI k), .null, .null, .null] [] (mS I1 J) = some (some (.int (acr s p)), mS I' J) := by
    intro n
    induction n with
    | zero =>
      intro k I1 hk h1
      have hR1 := FC.rep h hW (FC.f1 h1)
      refine ⟨I1, h1, ?_⟩
      rw [e_58_4]
      simp only [lc_194, lr_194_0, w_C W1, hR1.wds, hW.nW.2, n_lt (show k < 2 ^ 31 by omega) (show nW s < 2 ^ 31 by omega), n_ltf (show nW s ≤ k by omega), m1e, bq_s, mS_c, mS_l, mS_r, mS_i, mS_j, mS_pi, mS_pj, lt_st, bq_s, bV_s, bI_s, bJ_s, bA_s, nz_0, nc_0, nz_1, nc_1, nz_2, nc_2, nz_3, nc_3, nz_4, nc_4, nz_5, nc_5, nz_6, nc_6, nz_7, nc_7, nz_8, nc_8, nz_9, nc_9, nz_10, nc_10, nz_11, nc_11, nz_12, nc_12, if_true, if_false, eq_self, true_and, and_true, false_or, or_false, true_or, or_true, false_and, and_false, not_true, not_false_eq_true, ne_eq, ite_self, ite_not, ↓reduceIte, n_101, n_107, n_11]
      unfold acr
      rw [show k = nW s by omega]
    | succ n ih =>
      intro k I1 hk h1
      have hkn : k < nW s := by omega
      have hR1 := FC.rep h hW (FC.f1 h1)
      have i0c : (nI (k)).toNatClampNeg = k := nI_clamp (by omega)
      have i0z : (nI (k) < 0) = False := n_ge0 (by omega)
      have i0l : (8 ≤ k) = False := n_lef (by omega)
      obtain ⟨I2, a2, r2⟩ := k59 (d := d) (J := J) (show 0 < 2 by decide) hR1 hW hkn
      have hR2 := FC.rep hR1 hW (FC.f1 a2)
      obtain ⟨I3, a3, r3⟩ := k59 (d := d) (J := J) (show 1 < 2 by decide) hR2 hW hkn
      have w0 := hR1.wF hkn (show 0 < 4 by decide)
      have w1 := hR2.wF hkn (show 1 < 4 by decide)
      obtain ⟨I4, a4, r4⟩ := ih (k + 1) I3 (by omega) (fun a ha => by rw [a3 a ha, a2 a ha, h1 a ha])
      refine ⟨I4, a4, ?_⟩
      rw [acU_s] at r4
      rw [e_58_4]
      simp only [lc_194, lr_194_0, w_C W1, w_R3 W1, w_C4 W1, w_L4 W1, w_cd W1 (show k < 8 by omega), w_rd W1 (show k < 8 by omega), hR1.wds, hW.nW.2, n_lt (show k < 2 ^ 31 by omega) (show nW s < 2 ^ 31 by omega), n_ltt hkn, i0c, i0z, i0l, w0, w1, r2, r3, bit_at0 (show p < 32 by omega), nI_add, show (103 ≤ 112 ∧ 112 < 200) = True from eq_true (by decide), bq_s, mS_c, mS_l, mS_r, mS_i, mS_j, mS_pi, mS_pj, lt_st, bq_s, bV_s, bI_s, bJ_s, bA_s, nz_0, nc_0, nz_1, nc_1, nz_2, nc_2, nz_3, nc_3, nz_4, nc_4, nz_5, nc_5, nz_6, nc_6, nz_7, nc_7, nz_8, nc_8, nz_9, nc_9, nz_10, nc_10, nz_11, nc_11, nz_12, nc_12, if_true, if_false, eq_self, true_and, and_true, false_or, or_false, true_or, or_true, false_and, and_false, not_true, not_false_eq_true, ne_eq, ite_self, ite_not, ↓reduceIte, n_101, n_107, n_11]
      cases b0 : bit (side s k 0) p <;> cases b1 : bit (side s k 1) p <;> rw [b0, b1] at r4 <;> simp only [Bool.false_eq_true, Bool.true_eq_false, or_0, bq_s, mS_c, mS_l, mS_r, mS_i, mS_j, mS_pi, mS_pj, lt_st, bq_s, bV_s, bI_s, bJ_s, bA_s, nz_0, nc_0, nz_1, nc_1, nz_2, nc_2, nz_3, nc_3, nz_4, nc_4, nz_5, nc_5, nz_6, nc_6, nz_7, nc_7, nz_8, nc_8, nz_9, nc_9, nz_10, nc_10, nz_11, nc_11, nz_12, nc_12, if_true, if_false, eq_self, true_and, and_true, false_or, or_false, true_or, or_true, false_and, and_false, not_true, not_false_eq_true, ne_eq, ite_self, ite_not, ↓reduceIte, n_101, n_107, n_11] at r4 ⊢ <;> exact r4
  obtain ⟨I', a, b⟩ := lp (nW s) 0 I (by omega) (fun _ _ => rfl)
  refine ⟨I', FC.f1 a, ?_⟩
  rw [c_58 lc_194]
  exact b
theorem k112 (h : Rep I 1 s) (hW : WF s) : ∃ I', FC I' I ∧ am_cal (d + 8) 112 [.ref 0, .int x] (mS I J) = some (some (.int (v_wed s x)), mS I' J) := by
  have h12 := hW.nP.1
  rw [c_112 lc_0]
  simp only [lc_0, lr_0_0, k65 W1 h, bq_s, mS_c, mS_l, mS_r, mS_i, mS_j, mS_pi, mS_pj, lt_st, bq_s, bV_s, bI_s, bJ_s, bA_s, nz_0, nc_0, nz_1, nc_1, nz_2, nc_2, nz_3, nc_3, nz_4, nc_4, nz_5, nc_5, nz_6, nc_6, nz_7, nc_7, nz_8, nc_8, nz_9, nc_9, nz_10, nc_10, nz_11, nc_11, nz_12, nc_12, if_true, if_false, eq_self, true_and, and_true, false_or, or_false, true_or, or_true, false_and, and_false, not_true, not_false_eq_true, ne_eq, ite_self, ite_not, ↓reduceIte, n_101, n_107, n_11]
  unfold v_wed
  by_cases hx : isP s x
  · obtain ⟨p, hp, rfl⟩ := isP_n hW hx
    obtain ⟨I', hF, hr⟩ := k58 (d := d) (J := J) h hW hp
    refine ⟨I', hF, ?_⟩
    rw [if_pos hx, if_pos hx, if_neg (by decide)]
    simp only [lr_0_5, hr, nI_clamp (show p < 2 ^ 31 by omega), bq_s, mS_c, mS_l, mS_r, mS_i, mS_j, mS_pi, mS_pj, lt_st, bq_s, bV_s, bI_s, bJ_s, bA_s, nz_0, nc_0, nz_1, nc_1, nz_2, nc_2, nz_3, nc_3, nz_4, nc_4, nz_5, nc_5, nz_6, nc_6, nz_7, nc_7, nz_8, nc_8, nz_9, nc_9, nz_10, nc_10, nz_11, nc_11, nz_12, nc_12, if_true, if_false, eq_self, true_and, and_true, false_or, or_false, true_or, or_true, false_and, and_false, not_true, not_false_eq_true, ne_eq, ite_self, ite_not, ↓reduceIte, n_101, n_107, n_11]
  · exact ⟨I, FC.rf, by rw [if_neg hx, if_neg hx, if_pos nI_0]⟩
end E1
