/-! ===== fewest, the model ===== -/
noncomputable def dsc (s : Rw) (N : Nat) : Nat → Nat
  | 0 => N
  | n + 1 => @ite _ (bc (N - n) ≤ bc (dsc s N n) ∧ Ts s (N - n)) (Classical.propDecidable _) (N - n) (dsc s N n)
theorem dsc_inv {s : Rw} {N : Nat} : ∀ n, n ≤ N + 1 → dsc s N n ≤ N ∧ (dsc s N n = N ∨ Ts s (dsc s N n)) ∧ N + 1 ≤ dsc s N n + n + (if n = 0 then 1 else 0) ∧ bc (dsc s N n) ≤ bc N ∧ ∀ m, N + 1 ≤ m + n → m ≤ N → Ts s m → bc (dsc s N n) < bc m ∨ (bc (dsc s N n) = bc m ∧ dsc s N n ≤ m)
  | 0, _ => ⟨Nat.le_refl _, Or.inl rfl, by simp [dsc], Nat.le_refl _, fun m hm hm2 => by omega⟩
  | n + 1, hn => by
    obtain ⟨h1, h2, h3, h4, h5⟩ := dsc_inv (s := s) (N := N) n (by omega)
    by_cases hc : bc (N - n) ≤ bc (dsc s N n) ∧ Ts s (N - n)
    · have e : dsc s N (n + 1) = N - n := if_pos hc
      rw [e]
      refine ⟨by omega, Or.inr hc.2, by rw [if_neg (by omega)]; omega, by omega, fun m hm hm2 hT => ?_⟩
      by_cases hmk : m = N - n
      · subst hmk; exact Or.inr ⟨rfl, Nat.le_refl _⟩
      · have := h5 m (by omega) hm2 hT
        by_cases he : bc (N - n) = bc m
        · exact Or.inr ⟨he, by omega⟩
        · exact Or.inl (by omega)
    · have e : dsc s N (n + 1) = dsc s N n := if_neg hc
      rw [e]
      refine ⟨h1, h2, ?_, h4, fun m hm hm2 hT => ?_⟩
      · rw [if_neg (by omega)]
        by_cases h0 : n = 0
        · subst h0; rw [if_pos rfl] at h3; omega
        · rw [if_neg h0] at h3; omega
      · by_cases hmk : m = N - n
        · subst hmk
          have hn2 : ¬ bc (N - n) ≤ bc (dsc s N n) := fun h => hc ⟨h, hT⟩
          exact Or.inl (by omega)
        · exact h5 m (by omega) hm2 hT
theorem dsc_few {s : Rw} (hW : WF s) : dsc s (2 ^ nD s - 1) (2 ^ nD s - 1 + 1) = few s := by
  generalize hN : 2 ^ nD s - 1 = N
  obtain ⟨h1, h2, _, h4, h5⟩ := dsc_inv (s := s) (N := N) (N + 1) (Nat.le_refl _)
  have hm := few_min hW
  rw [hN] at hm
  refine isMin_u ⟨h1, h2, fun m hm hT => ?_⟩ hm
  by_cases he : m = N
  · subst he
    by_cases hb : bc (dsc s m (m + 1)) = bc m
    · exact Or.inr ⟨hb, h1⟩
    · exact Or.inl (by omega)
  · rcases hT with hT | hT
    · exact absurd hT he
    · exact h5 m (by omega) hm hT
section C6
variable {I : mI} {J : mJ} {w p q e c d l b g : Nat} {s : Rw} {x y key day : Int32}
theorem m222 {m : Nat} (hm : m < 1024) : am_cal (g + 1) 222 [.int (nI m)] (mS I J) = some (some (.int (nI (bc m))), mS I J) := by
  have lp : ∀ k m a, m ≤ k → m < 1024 → am_X (am_cal g) 222 4 [.null, .int (nI a), .int (nI m)] [] (mS I J) = some (some (.int (nI (a + bc m))), mS I J) := by
    intro k
    induction k with
    | zero =>
      intro m a hk hm
      have : m = 0 := by omega
      subst this
      rw [e_222_4]
      simp only [nn_0_1, nn_0_2, nn_0_3, nn_0_4, nn_0_5, nn_0_6, nn_0_7, nn_0_8, nn_1_0, nn_1_2, nn_1_3, nn_1_4, nn_1_5, nn_1_6, nn_1_7, nn_1_8, nn_2_0, nn_2_1, nn_2_3, nn_2_4, nn_2_5, nn_2_6, nn_2_7, nn_2_8, nn_3_0, nn_3_1, nn_3_2, nn_3_4, nn_3_5, nn_3_6, nn_3_7, nn_3_8, nn_4_0, nn_4_1, nn_4_2, nn_4_3, nn_4_5, nn_4_6, nn_4_7, nn_4_8, nn_5_0, nn_5_1, nn_5_2, nn_5_3, nn_5_4, nn_5_6, nn_5_7, nn_5_8, nn_6_0, nn_6_1, nn_6_2, nn_6_3, nn_6_4, nn_6_5, nn_6_7, nn_6_8, nn_7_0, nn_7_1, nn_7_2, nn_7_3, nn_7_4, nn_7_5, nn_7_6, nn_7_8, nn_8_0, nn_8_1, nn_8_2, nn_8_3, nn_8_4, nn_8_5, nn_8_6, nn_8_7, nq_0, nq_1, nq_2, nq_3, nq_4, nq_5, nq_6, nq_7, nq_8, bq_s, mS_c, mS_l, mS_r, mS_i, mS_j, mS_pi, mS_pj, lt_st, bq_s, bV_s, bI_s, bJ_s, bA_s, nz_0, nc_0, nz_1, nc_1, nz_2, nc_2, nz_3, nc_3, nz_4, nc_4, nz_5, nc_5, nz_6, nc_6, nz_7, nc_7, nz_8, nc_8, nz_9, nc_9, nz_10, nc_10, nz_11, nc_11, nz_12, nc_12, if_true, if_false, eq_self, true_and, and_true, false_or, or_false, true_or, or_true, false_and, and_false, not_true, not_false_eq_true, ne_eq, ite_self, ite_not, ↓reduceIte, n_101, n_107, n_11]
      rfl
    | succ k ih =>
      intro m a hk hm
      rw [e_222_4]
      by_cases h0 : m = 0
      · subst h0
        simp only [nn_0_1, nn_0_2, nn_0_3, nn_0_4, nn_0_5, nn_0_6, nn_0_7, nn_0_8, nn_1_0, nn_1_2, nn_1_3, nn_1_4, nn_1_5, nn_1_6, nn_1_7, nn_1_8, nn_2_0, nn_2_1, nn_2_3, nn_2_4, nn_2_5, nn_2_6, nn_2_7, nn_2_8, nn_3_0, nn_3_1, nn_3_2, nn_3_4, nn_3_5, nn_3_6, nn_3_7, nn_3_8, nn_4_0, nn_4_1, nn_4_2, nn_4_3, nn_4_5, nn_4_6, nn_4_7, nn_4_8, nn_5_0, nn_5_1, nn_5_2, nn_5_3, nn_5_4, nn_5_6, nn_5_7, nn_5_8, nn_6_0, nn_6_1, nn_6_2, nn_6_3, nn_6_4, nn_6_5, nn_6_7, nn_6_8, nn_7_0, nn_7_1, nn_7_2, nn_7_3, nn_7_4, nn_7_5, nn_7_6, nn_7_8, nn_8_0, nn_8_1, nn_8_2, nn_8_3, nn_8_4, nn_8_5, nn_8_6, nn_8_7, nq_0, nq_1, nq_2, nq_3, nq_4, nq_5, nq_6, nq_7, nq_8, bq_s, mS_c, mS_l, mS_r, mS_i, mS_j, mS_pi, mS_pj, lt_st, bq_s, bV_s, bI_s, bJ_s, bA_s, nz_0, nc_0, nz_1, nc_1, nz_2, nc_2, nz_3, nc_3, nz_4, nc_4, nz_5, nc_5, nz_6, nc_6, nz_7, nc_7, nz_8, nc_8, nz_9, nc_9, nz_10, nc_10, nz_11, nc_11, nz_12, nc_12, if_true, if_false, eq_self, true_and, and_true, false_or, or_false, true_or, or_true, false_and, and_false, not_true, not_false_eq_true, ne_eq, ite_self, ite_not, ↓reduceIte, n_101, n_107, n_11]
        rfl
      · obtain ⟨c1, c2, c3⟩ := clr_t m hm h0
        rw [if_neg (nI_ne0 (by omega) (by omega)), c1, nI_add, ih _ _ (by omega) (by omega), ← c3]
        exact congrArg (fun z => some (some (Value.int (nI z)), mS I J)) (by omega)
  rw [c_222]
  have := lp m m 0 (Nat.le_refl _) hm
  rw [Nat.zero_add] at this
  exact this
theorem m223 (hW : WF (I 230)) (hA : ∀ p, p < nP (I 230) → I 240 p = knw (I 230) p) {m : Nat} : am_cal (g + 2) 223 [.ref 229, .int (nI m)] (mS I J) = some (some (.int (b2 (Ts (I 230) m))), mS I J) := by
  have h12 := hW.nP.1
  have of : ∀ {p f : Nat}, p < nP (I 230) → f < 10 → am_cal (g + 1) 152 [.ref 229, .int (nI p), .int (nI f)] (mS I J) = some (some (.int (pF (I 230) p f)), mS I J) := fun hp hf => m152 (by omega) hf
  have b1 : b2 True = nI 1 := b2_t trivial
  have b0 : b2 False = nI 0 := b2_f id
  have lq : ∀ (p : Nat), p < nP (I 230) → ∀ n q, q + n = p → am_X (am_cal (g + 1)) 223 12 [.ref 229, .int (nI m), .int (b2 (Tl (prsP (I 230) p ++ prsQ (I 230) p q) m)), .int (nI p), .int (nI q), .null] [] (mS I J) = am_X (am_cal (g + 1)) 223 4 [.ref 229, .int (nI m), .int (b2 (Tl (prsP (I 230) (p + 1)) m)), .int (nI (p + 1)), .null, .null] [] (mS I J) := by
    intro p hp n
    induction n with
    | zero =>
      intro q hq
      have e : q = p := by omega
      subst e
      rw [e_223_12]
      simp only [n_lt (show q < 2 ^ 31 by omega) (show q < 2 ^ 31 by omega), n_ltf (Nat.le_refl q), nI_add, bq_s, mS_c, mS_l, mS_r, mS_i, mS_j, mS_pi, mS_pj, lt_st, bq_s, bV_s, bI_s, bJ_s, bA_s, nz_0, nc_0, nz_1, nc_1, nz_2, nc_2, nz_3, nc_3, nz_4, nc_4, nz_5, nc_5, nz_6, nc_6, nz_7, nc_7, nz_8, nc_8, nz_9, nc_9, nz_10, nc_10, nz_11, nc_11, nz_12, nc_12, if_true, if_false, eq_self, true_and, and_true, false_or, or_false, true_or, or_true, false_and, and_false, not_true, not_false_eq_true, ne_eq, ite_self, ite_not, ↓reduceIte, n_101, n_107, n_11]
      rfl
    | succ n ih =>
      intro q hq
      have hqp : q < nP (I 230) := by omega
      have i0c : (nI (p)).toNatClampNeg = p := nI_clamp (by omega)
      have i0z : (nI (p) < 0) = False := n_ge0 (by omega)
      have i0l : (12 ≤ p) = False := n_lef (by omega)
      have i1c : (nI (q)).toNatClampNeg = q := nI_clamp (by omega)
      have i1z : (nI (q) < 0) = False := n_ge0 (by omega)
      have i1l : (12 ≤ q) = False := n_lef (by omega)
      have ih := ih (q + 1) (by omega)
      have go : ∀ (B : Prop), (B ↔ Tl (prsP (I 230) p ++ prsQ (I 230) p (q + 1)) m) → am_X (am_cal (g + 1)) 223 12 [.ref 229, .int (nI m), .int (b2 B), .int (nI p), .int (nI (q + 1)), .null] [] (mS I J) = am_X (am_cal (g + 1)) 223 4 [.ref 229, .int (nI m), .int (b2 (Tl (prsP (I 230) (p + 1)) m)), .int (nI (p + 1)), .null, .null] [] (mS I J) := fun B hB => by
        rw [propext hB]; exact ih
      have gt := go True
      have gf := go False
      rw [b1] at gt
      rw [b0] at gf
      rw [e_223_12]
      simp only [lr_229_18, lc_240, ll_240, n_lt (show q < 2 ^ 31 by omega) (show p < 2 ^ 31 by omega), n_ltt (show q < p by omega), i0c, i0z, i0l, i1c, i1z, i1l, hA p hp, hA q hqp, of hp (show 0 < 10 by decide), of hqp (show 0 < 10 by decide), nI_add, lc_229, lr_229_0, lc_230, ll_230, bq_s, mS_c, mS_l, mS_r, mS_i, mS_j, mS_pi, mS_pj, lt_st, bq_s, bV_s, bI_s, bJ_s, bA_s, nz_0, nc_0, nz_1, nc_1, nz_2, nc_2, nz_3, nc_3, nz_4, nc_4, nz_5, nc_5, nz_6, nc_6, nz_7, nc_7, nz_8, nc_8, nz_9, nc_9, nz_10, nc_10, nz_11, nc_11, nz_12, nc_12, if_true, if_false, eq_self, true_and, and_true, false_or, or_false, true_or, or_true, false_and, and_false, not_true, not_false_eq_true, ne_eq, ite_self, ite_not, ↓reduceIte]
      by_cases hT : Tl (prsP (I 230) p ++ prsQ (I 230) p q) m
      · rw [if_b2t hT]
        have keep : ¬ tell (I 230) p q → (True ↔ Tl (prsP (I 230) p ++ prsQ (I 230) p (q + 1)) m) := fun hn => by rw [prsQ_f hn]; exact ⟨fun _ => hT, fun _ => trivial⟩
        by_cases hp6 : pF (I 230) p 0 = nI 6
        · rw [if_pos hp6]; exact gt (keep fun h => h.1 hp6)
        · rw [if_neg hp6]
          by_cases hq6 : pF (I 230) q 0 = nI 6
          · rw [if_pos hq6]; exact gt (keep fun h => h.2.1 hq6)
          · rw [if_neg hq6]
            by_cases hk : knw (I 230) p = knw (I 230) q
            · rw [if_pos (by rw [hk, n_i0]; exact bit_ext fun r hr => by rw [bit_xor, Bool.xor_self, bit_n0])]
              exact gt (keep fun h => h.2.2 hk)
            · have hx : ¬ knw (I 230) p ^^^ knw (I 230) q = 0 := fun h => hk (bit_ext fun r hr => by
                have : bit (knw (I 230) p ^^^ knw (I 230) q) r = false := by rw [h, n_i0, bit_n0]
                rw [bit_xor] at this
                cases h1 : bit (knw (I 230) p) r <;> cases h2 : bit (knw (I 230) q) r <;> rw [h1, h2] at this <;> first | rfl | exact absurd this (by decide))
              have ht : tell (I 230) p q := ⟨hp6, hq6, hk⟩
              rw [if_neg hx]
              by_cases hz : (knw (I 230) p ^^^ knw (I 230) q) &&& nI m = 0
              · rw [if_pos hz]
                exact gf ⟨fun h => h.elim, fun h => by
                  rw [prsQ_t ht, ← List.append_assoc, Tl_app, Tl_one] at h
                  exact h.2 hz⟩
              · rw [if_neg hz]
                exact gt ⟨fun _ => by rw [prsQ_t ht, ← List.append_assoc, Tl_app, Tl_one]; exact ⟨hT, hz⟩, fun _ => trivial⟩
      · rw [if_b2f hT]
        refine gf ⟨fun h => h.elim, fun h => hT ?_⟩
        by_cases ht : tell (I 230) p q
        · rw [prsQ_t ht, ← List.append_assoc, Tl_app] at h
          exact h.1
        · rw [prsQ_f ht] at h
          exact h
  have lp : ∀ n p, p + n = nP (I 230) → am_X (am_cal (g + 1)) 223 4 [.ref 229, .int (nI m), .int (b2 (Tl (prsP (I 230) p) m)), .int (nI p), .null, .null] [] (mS I J) = some (some (.int (b2 (Ts (I 230) m))), mS I J) := by
    intro n
    induction n with
    | zero =>
      intro p hp
      have e : p = nP (I 230) := by omega
      subst e
      rw [e_223_4]
      simp only [hW.nP.2, n_lt (show nP (I 230) < 2 ^ 31 by omega) (show nP (I 230) < 2 ^ 31 by omega), n_ltf (Nat.le_refl _), n_lef (show 1 < 546 by decide), b2_01, lc_229, lr_229_0, lc_230, ll_230, bq_s, mS_c, mS_l, mS_r, mS_i, mS_j, mS_pi, mS_pj, lt_st, bq_s, bV_s, bI_s, bJ_s, bA_s, nz_0, nc_0, nz_1, nc_1, nz_2, nc_2, nz_3, nc_3, nz_4, nc_4, nz_5, nc_5, nz_6, nc_6, nz_7, nc_7, nz_8, nc_8, nz_9, nc_9, nz_10, nc_10, nz_11, nc_11, nz_12, nc_12, if_true, if_false, eq_self, true_and, and_true, false_or, or_false, true_or, or_true, false_and, and_false, not_true, not_false_eq_true, ne_eq, ite_self, ite_not, ↓reduceIte]
      rfl
    | succ n ih =>
      intro p hp
      have hpn : p < nP (I 230) := by omega
      have e := lq p hpn p 0 (by omega)
      rw [show prsQ (I 230) p 0 = [] from rfl, List.append_nil] at e
      rw [e_223_4]
      simp only [hW.nP.2, n_lt (show p < 2 ^ 31 by omega) (show nP (I 230) < 2 ^ 31 by omega), n_ltt hpn, n_lef (show 1 < 546 by decide), lc_229, lr_229_0, lc_230, ll_230, bq_s, mS_c, mS_l, mS_r, mS_i, mS_j, mS_pi, mS_pj, lt_st, bq_s, bV_s, bI_s, bJ_s, bA_s, nz_0, nc_0, nz_1, nc_1, nz_2, nc_2, nz_3, nc_3, nz_4, nc_4, nz_5, nc_5, nz_6, nc_6, nz_7, nc_7, nz_8, nc_8, nz_9, nc_9, nz_10, nc_10, nz_11, nc_11, nz_12, nc_12, if_true, if_false, eq_self, true_and, and_true, false_or, or_false, true_or, or_true, false_and, and_false, not_true, not_false_eq_true, ne_eq, ite_self, ite_not, ↓reduceIte]
      rw [e, ih (p + 1) (by omega)]
  rw [c_223 lc_229]
  have := lp (nP (I 230)) 0 (by omega)
  rw [b2_t (show Tl (prsP (I 230) 0) m from Tl_nil)] at this
  exact this
theorem bit_sh : ∀ v, v < 2 → ∀ d, d < 32 → ∀ r, r < 32 → bit (nI v <<< (nI d &&& 31)) r = (decide (v = 1) && decide (d = r)) := by decide +kernel
theorem m224 (hW : WF (I 230)) : ∃ I', F1 240 I' I ∧ am_cal (g + 4) 224 [.ref 229, .int x] (mS I J) = some (some (.int (v_few (I 230) x)), mS I' J) := by
  have h12 := hW.nP.1
  have h10 := hW.nD.1
  rw [c_224 lc_229, m151 (by decide) (by decide), bI_s]
  by_cases hx : ¬ x < nI 0 ∧ ¬ nI 1 < x
  · rw [if_pos hx, if_neg (by decide)]
    rw [i2_in] at hx
    -- nobody knows anything yet
    have l10 : ∀ n p (I1 : mI), p + n = 12 → F1 240 I1 I → (∀ q, q < p → I1 240 q = nI 0) → ∃ I', F1 240 I' I ∧ (∀ q, q < 12 → I' 240 q = nI 0) ∧ am_X (am_cal (g + 3)) 224 10 [.ref 229, .int x, .int (nI p), .null, .null] [] (mS I1 J) = am_X (am_cal (g + 3)) 224 22 [.ref 229, .int x, .int (nI 0), .null, .null] [] (mS I' J) := by
      intro n
      induction n with
      | zero =>
        intro p I1 hp h1 hz
        refine ⟨I1, h1, fun q hq => hz q (by omega), ?_⟩
        rw [e_224_10]
        simp only [n_lt (show p < 2 ^ 31 by omega) (show 12 < 2 ^ 31 by decide), n_ltf (show 12 ≤ p by omega), bq_s, mS_c, mS_l, mS_r, mS_i, mS_j, mS_pi, mS_pj, lt_st, bq_s, bV_s, bI_s, bJ_s, bA_s, nz_0, nc_0, nz_1, nc_1, nz_2, nc_2, nz_3, nc_3, nz_4, nc_4, nz_5, nc_5, nz_6, nc_6, nz_7, nc_7, nz_8, nc_8, nz_9, nc_9, nz_10, nc_10, nz_11, nc_11, nz_12, nc_12, if_true, if_false, eq_self, true_and, and_true, false_or, or_false, true_or, or_true, false_and, and_false, not_true, not_false_eq_true, ne_eq, ite_self, ite_not, ↓reduceIte, n_101, n_107, n_11]
      | succ n ih =>
        intro p I1 hp h1 hz
        have i0c : (nI (p)).toNatClampNeg = p := nI_clamp (by omega)
        have i0z : (nI (p) < 0) = False := n_ge0 (by omega)
        have i0l : (12 ≤ p) = False := n_lef (by omega)
        obtain ⟨I', hF, hz2, hr⟩ := ih (p + 1) (wI I1 240 p (nI 0)) (by omega) (fun a ha => by rw [wI_F1 a ha, h1 a ha]) (fun q hq => by
          by_cases e : q = p
          · subst e; exact wI_eq
          · rw [wI_nk e]; exact hz q (by omega))
        refine ⟨I', hF, hz2, ?_⟩
        rw [e_224_10]
        simp only [lr_229_18, lc_240, ll_240, n_lt (show p < 2 ^ 31 by omega) (show 12 < 2 ^ 31 by decide), n_ltt (show p < 12 by omega), i0c, i0z, i0l, nI_add, lc_229, lr_229_0, lc_230, ll_230, bq_s, mS_c, mS_l, mS_r, mS_i, mS_j, mS_pi, mS_pj, lt_st, bq_s, bV_s, bI_s, bJ_s, bA_s, nz_0, nc_0, nz_1, nc_1, nz_2, nc_2, nz_3, nc_3, nz_4, nc_4, nz_5, nc_5, nz_6, nc_6, nz_7, nc_7, nz_8, nc_8, nz_9, nc_9, nz_10, nc_10, nz_11, nc_11, nz_12, nc_12, if_true, if_false, eq_self, true_and, and_true, false_or, or_false, true_or, or_true, false_and, and_false, not_true, not_false_eq_true, ne_eq, ite_self, ite_not, ↓reduceIte]
        exact hr
    have kd : ∀ (I1 : mI) (dd : Nat), Prop := fun I1 dd => ∀ q, q < nP (I 230) → I1 240 q = mkS (fun d => rem (I 230) d q) dd
    -- one deed for all
    have l34 : ∀ (dd : Nat), dd < nD (I 230) → ∀ n p (I1 : mI), p + n = nP (I 230) → F1 240 I1 I → (∀ q, q < nP (I 230) → I1 240 q = mkS (fun d => rem (I 230) d q) (if q < p then dd + 1 else dd)) → ∃ I', F1 240 I' I ∧ (∀ q, q < nP (I 230) → I' 240 q = mkS (fun d => rem (I 230) d q) (dd + 1)) ∧ am_X (am_cal (g + 3)) 224 34 [.ref 229, .int x, .int (nI dd), .int (whoK (I 230) dd), .int (nI p)] [] (mS I1 J) = am_X (am_cal (g + 3)) 224 22 [.ref 229, .int x, .int (nI (dd + 1)), .null, .null] [] (mS I' J) := by
      intro dd hdd n
      induction n with
      | zero =>
        intro p I1 hp h1 hz
        have f0 := h1 230 (by decide)
        refine ⟨I1, h1, fun q hq => by rw [hz q hq, if_pos (by omega)], ?_⟩
        rw [e_224_34]
        simp only [f0, hW.nP.2, n_lt (show p < 2 ^ 31 by omega) (show nP (I 230) < 2 ^ 31 by omega), n_ltf (show nP (I 230) ≤ p by omega), n_lef (show 1 < 546 by decide), nI_add, lc_229, lr_229_0, lc_230, ll_230, bq_s, mS_c, mS_l, mS_r, mS_i, mS_j, mS_pi, mS_pj, lt_st, bq_s, bV_s, bI_s, bJ_s, bA_s, nz_0, nc_0, nz_1, nc_1, nz_2, nc_2, nz_3, nc_3, nz_4, nc_4, nz_5, nc_5, nz_6, nc_6, nz_7, nc_7, nz_8, nc_8, nz_9, nc_9, nz_10, nc_10, nz_11, nc_11, nz_12, nc_12, if_true, if_false, eq_self, true_and, and_true, false_or, or_false, true_or, or_true, false_and, and_false, not_true, not_false_eq_true, ne_eq, ite_self, ite_not, ↓reduceIte]
      | succ n ih =>
        intro p I1 hp h1 hz
        have f0 := h1 230 (by decide)
        have hpn : p < nP (I 230) := by omega
        have i0c : (nI (p)).toNatClampNeg = p := nI_clamp (by omega)
        have i0z : (nI (p) < 0) = False := n_ge0 (by omega)
        have i0l : (12 ≤ p) = False := n_lef (by omega)
        have vp := hz p hpn
        rw [if_neg (by omega)] at vp
        have bw : bit (whoK (I 230) dd) p = rem (I 230) dd p := by unfold whoK; rw [bit_mk (by omega) (by omega), decide_eq_true hpn, Bool.true_and]
        have ev : mkS (fun d => rem (I 230) d p) dd ||| ((if bit (whoK (I 230) dd) p then nI 1 else nI 0) <<< (nI dd &&& 31)) = mkS (fun d => rem (I 230) d p) (dd + 1) := by
          rw [bw, mkS_s]
          cases hm : rem (I 230) dd p
          · rw [if_neg (by decide), if_neg (by decide)]
            exact bit_ext fun r hr => by rw [bit_or, bit_sh 0 (by decide) dd (by omega) r hr, decide_eq_false (by decide), Bool.false_and, Bool.or_false]
          · rw [if_pos rfl, if_pos rfl]
        obtain ⟨I', hF, hz2, hr⟩ := ih (p + 1) (wI I1 240 p (mkS (fun d => rem (I 230) d p) (dd + 1))) (by omega) (fun a ha => by rw [wI_F1 a ha, h1 a ha]) (fun q hq => by
          by_cases e : q = p
          · subst e; rw [wI_eq, if_pos (by omega)]
          · rw [wI_nk e, hz q hq]
            by_cases hqp : q < p
            · rw [if_pos hqp, if_pos (by omega)]
            · rw [if_neg hqp, if_neg (by omega)])
        refine ⟨I', hF, hz2, ?_⟩
        rw [e_224_34]
        simp only [f0, hW.nP.2, lr_229_18, lc_240, ll_240, n_lt (show p < 2 ^ 31 by omega) (show nP (I 230) < 2 ^ 31 by omega), n_ltt hpn, n_lef (show 1 < 546 by decide), i0c, i0z, i0l, vp, bit_at (show p < 32 by omega), ev, nI_add, lc_229, lr_229_0, lc_230, ll_230, bq_s, mS_c, mS_l, mS_r, mS_i, mS_j, mS_pi, mS_pj, lt_st, bq_s, bV_s, bI_s, bJ_s, bA_s, nz_0, nc_0, nz_1, nc_1, nz_2, nc_2, nz_3, nc_3, nz_4, nc_4, nz_5, nc_5, nz_6, nc_6, nz_7, nc_7, nz_8, nc_8, nz_9, nc_9, nz_10, nc_10, nz_11, nc_11, nz_12, nc_12, if_true, if_false, eq_self, true_and, and_true, false_or, or_false, true_or, or_true, false_and, and_false, not_true, not_false_eq_true, ne_eq, ite_self, ite_not, ↓reduceIte]
        exact hr
    have l22 : ∀ n dd (I1 : mI), dd + n = nD (I 230) → F1 240 I1 I → (∀ q, q < nP (I 230) → I1 240 q = mkS (fun d => rem (I 230) d q) dd) → ∃ I', F1 240 I' I ∧ (∀ q, q < nP (I 230) → I' 240 q = knw (I 230) q) ∧ am_X (am_cal (g + 3)) 224 22 [.ref 229, .int x, .int (nI dd), .null, .null] [] (mS I1 J) = am_X (am_cal (g + 3)) 224 69 [.ref 229, .int x, .int ((nI 1 <<< (nI (nD (I 230)) &&& 31)) - nI 1), .int ((nI 1 <<< (nI (nD (I 230)) &&& 31)) - nI 1), .null] [] (mS I' J) := by
      intro n
      induction n with
      | zero =>
        intro dd I1 hd h1 hz
        have f0 := h1 230 (by decide)
        have e : dd = nD (I 230) := by omega
        subst e
        refine ⟨I1, h1, hz, ?_⟩
        rw [e_224_22]
        simp only [f0, hW.nD.2, n_lt (show nD (I 230) < 2 ^ 31 by omega) (show nD (I 230) < 2 ^ 31 by omega), n_ltf (Nat.le_refl _), n_lef (show 4 < 546 by decide), lc_229, lr_229_0, lc_230, ll_230, bq_s, mS_c, mS_l, mS_r, mS_i, mS_j, mS_pi, mS_pj, lt_st, bq_s, bV_s, bI_s, bJ_s, bA_s, nz_0, nc_0, nz_1, nc_1, nz_2, nc_2, nz_3, nc_3, nz_4, nc_4, nz_5, nc_5, nz_6, nc_6, nz_7, nc_7, nz_8, nc_8, nz_9, nc_9, nz_10, nc_10, nz_11, nc_11, nz_12, nc_12, if_true, if_false, eq_self, true_and, and_true, false_or, or_false, true_or, or_true, false_and, and_false, not_true, not_false_eq_true, ne_eq, ite_self, ite_not, ↓reduceIte]
      | succ n ih =>
        intro dd I1 hd h1 hz
        have f0 := h1 230 (by decide)
        have hdn : dd < nD (I 230) := by omega
        obtain ⟨I2, hF2, hz2, hr2⟩ := l34 dd hdn (nP (I 230)) 0 I1 (by omega) h1 (fun q hq => by rw [hz q hq, if_neg (by omega)])
        obtain ⟨I3, hF3, hz3, hr3⟩ := ih (dd + 1) I2 (by omega) hF2 hz2
        refine ⟨I3, hF3, hz3, ?_⟩
        have hm := m216 (I := I1) (J := J) (g := g) (d := dd) (by rw [f0]; exact hW) (by rw [f0]; exact hdn)
        rw [f0] at hm
        rw [e_224_22]
        simp only [f0, hW.nD.2, n_lt (show dd < 2 ^ 31 by omega) (show nD (I 230) < 2 ^ 31 by omega), n_ltt hdn, n_lef (show 4 < 546 by decide), hm, lc_229, lr_229_0, lc_230, ll_230, bq_s, mS_c, mS_l, mS_r, mS_i, mS_j, mS_pi, mS_pj, lt_st, bq_s, bV_s, bI_s, bJ_s, bA_s, nz_0, nc_0, nz_1, nc_1, nz_2, nc_2, nz_3, nc_3, nz_4, nc_4, nz_5, nc_5, nz_6, nc_6, nz_7, nc_7, nz_8, nc_8, nz_9, nc_9, nz_10, nc_10, nz_11, nc_11, nz_12, nc_12, if_true, if_false, eq_self, true_and, and_true, false_or, or_false, true_or, or_true, false_and, and_false, not_true, not_false_eq_true, ne_eq, ite_self, ite_not, ↓reduceIte]
        rw [hr2, hr3]
    obtain ⟨I1, h1, z1, r1⟩ := l10 12 0 I (by omega) (fun _ _ => rfl) (fun q hq => by omega)
    obtain ⟨I2, h2, z2, r2⟩ := l22 (nD (I 230)) 0 I1 (by omega) h1 (fun q hq => z1 q (by omega))
    have f0 := h2 230 (by decide)
    refine ⟨I2, h2, ?_⟩
    obtain ⟨a1, a2, a3⟩ := all_t (nD (I 230)) (by omega)
    rw [r1, r2, a1]
    have hfw := dsc_few hW
    generalize hNe : 2 ^ nD (I 230) - 1 = N at a1 a2 a3 hfw
    have hfl : few (I 230) < 1024 := by have := (few_min hW).1; omega
    have lp : ∀ n k, k + n = N + 1 → am_X (am_cal (g + 3)) 224 69 [.ref 229, .int x, .int (nI (dsc (I 230) N n)), .int (nI k - nI 1), .null] [] (mS I2 J) = some (some (.int (v_few (I 230) x)), mS I2 J) := by
      intro n
      induction hk : N + 1 - n generalizing n with
      | zero =>
        intro k hkn
        have e : n = N + 1 := by omega
        have k0 : k = 0 := by omega
        subst e; subst k0
        rw [e_224_69]
        simp only [neg1, hfw, m222 hfl, bq_s, mS_c, mS_l, mS_r, mS_i, mS_j, mS_pi, mS_pj, lt_st, bq_s, bV_s, bI_s, bJ_s, bA_s, nz_0, nc_0, nz_1, nc_1, nz_2, nc_2, nz_3, nc_3, nz_4, nc_4, nz_5, nc_5, nz_6, nc_6, nz_7, nc_7, nz_8, nc_8, nz_9, nc_9, nz_10, nc_10, nz_11, nc_11, nz_12, nc_12, if_true, if_false, eq_self, true_and, and_true, false_or, or_false, true_or, or_true, false_and, and_false, not_true, not_false_eq_true, ne_eq, ite_self, ite_not, ↓reduceIte, n_101, n_107, n_11]
        unfold v_few
        rcases hx with rfl | rfl <;> simp only [nn_0_1, nn_0_2, nn_0_3, nn_0_4, nn_0_5, nn_0_6, nn_0_7, nn_0_8, nn_1_0, nn_1_2, nn_1_3, nn_1_4, nn_1_5, nn_1_6, nn_1_7, nn_1_8, nn_2_0, nn_2_1, nn_2_3, nn_2_4, nn_2_5, nn_2_6, nn_2_7, nn_2_8, nn_3_0, nn_3_1, nn_3_2, nn_3_4, nn_3_5, nn_3_6, nn_3_7, nn_3_8, nn_4_0, nn_4_1, nn_4_2, nn_4_3, nn_4_5, nn_4_6, nn_4_7, nn_4_8, nn_5_0, nn_5_1, nn_5_2, nn_5_3, nn_5_4, nn_5_6, nn_5_7, nn_5_8, nn_6_0, nn_6_1, nn_6_2, nn_6_3, nn_6_4, nn_6_5, nn_6_7, nn_6_8, nn_7_0, nn_7_1, nn_7_2, nn_7_3, nn_7_4, nn_7_5, nn_7_6, nn_7_8, nn_8_0, nn_8_1, nn_8_2, nn_8_3, nn_8_4, nn_8_5, nn_8_6, nn_8_7, nq_0, nq_1, nq_2, nq_3, nq_4, nq_5, nq_6, nq_7, nq_8, bq_s, mS_c, mS_l, mS_r, mS_i, mS_j, mS_pi, mS_pj, lt_st, bq_s, bV_s, bI_s, bJ_s, bA_s, nz_0, nc_0, nz_1, nc_1, nz_2, nc_2, nz_3, nc_3, nz_4, nc_4, nz_5, nc_5, nz_6, nc_6, nz_7, nc_7, nz_8, nc_8, nz_9, nc_9, nz_10, nc_10, nz_11, nc_11, nz_12, nc_12, if_true, if_false, eq_self, true_and, and_true, false_or, or_false, true_or, or_true, false_and, and_false, not_true, not_false_eq_true, ne_eq, ite_self, ite_not, ↓reduceIte, n_101, n_107, n_11]
      | succ j ih =>
        intro k hkn
        obtain ⟨k, rfl⟩ : ∃ r, k = r + 1 := ⟨k - 1, by omega⟩
        have ek : N - n = k := by omega
        have inv := (dsc_inv (s := I 230) (N := N) n (by omega)).1
        have ih := ih (n + 1) (by omega) k (by omega)
        have b1 := bc_le k (by omega)
        have b2' := bc_le (dsc (I 230) N n) (by omega)
        have hm := m223 (g := g + 1) (J := J) (I := I2) (m := k) (by rw [f0]; exact hW) (by rw [f0]; exact z2)
        rw [f0] at hm
        rw [e_224_69, n_pred]
        simp only [n_ge0 (show k < 2 ^ 31 by omega), m222 (show k < 1024 by omega), m222 (show dsc (I 230) N n < 1024 by omega), n_lt (show bc (dsc (I 230) N n) < 2 ^ 31 by omega) (show bc k < 2 ^ 31 by omega), hm, bq_s, mS_c, mS_l, mS_r, mS_i, mS_j, mS_pi, mS_pj, lt_st, bq_s, bV_s, bI_s, bJ_s, bA_s, nz_0, nc_0, nz_1, nc_1, nz_2, nc_2, nz_3, nc_3, nz_4, nc_4, nz_5, nc_5, nz_6, nc_6, nz_7, nc_7, nz_8, nc_8, nz_9, nc_9, nz_10, nc_10, nz_11, nc_11, nz_12, nc_12, if_true, if_false, eq_self, true_and, and_true, false_or, or_false, true_or, or_true, false_and, and_false, not_true, not_false_eq_true, ne_eq, ite_self, ite_not, ↓reduceIte, n_101, n_107, n_11]
        by_cases hb : bc (dsc (I 230) N n) < bc k
        · have e : dsc (I 230) N (n + 1) = dsc (I 230) N n := if_neg (fun h => by rw [ek] at h; omega)
          rw [e] at ih
          rw [if_pos hb]
          exact ih
        · rw [if_neg hb]
          by_cases hT : Ts (I 230) k
          · have e : dsc (I 230) N (n + 1) = k := by rw [← ek]; exact if_pos (by rw [ek]; exact ⟨by omega, hT⟩)
            rw [e] at ih
            rw [if_b2t hT]
            exact ih
          · have e : dsc (I 230) N (n + 1) = dsc (I 230) N n := if_neg (fun h => by rw [ek] at h; exact hT h.2)
            rw [e] at ih
            rw [if_b2f hT]
            exact ih
    have := lp 0 (N + 1) (by omega)
    rw [n_pred] at this
    exact this
  · refine ⟨I, fun _ _ => rfl, ?_⟩
    rw [if_neg hx, if_pos nI_0]
    unfold v_few
    rw [if_neg (fun e => hx (by rw [e]; decide +kernel)), if_neg (fun e => hx (by rw [e]; decide +kernel))]
end C6
