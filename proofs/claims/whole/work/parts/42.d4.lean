/-! ===== the model finds the shares ===== -/
section D4
variable {I : mI} {J : mJ} {w p q e c d l b g r k : Nat} {s : Rw} {x y key day : Int32} {h : Nat → Nat}
/-- who stands, told up to an event -/
def SP (I : mI) (s : Rw) (e : Nat) : Prop := ∀ q, q < nP s → ((∃ e', e' < e ∧ endAt s q e') → I 238 q = nI 0) ∧ ((¬ ∃ e', e' < e ∧ endAt s q e') → byE s q < e → (pF s q 1 = nI 5 → ∃ e', e' < e ∧ eF s e' 0 = nI 2 ∧ eF s e' 1 = nI q) → I 238 q = nI 1)
theorem endAt_3 (s3 : eF s e 0 = nI 3) (h1 : eF s e 1 = nI p) (hp : p < nP s) (e2 : pF s p 2 = nI q ∨ pF s p 3 = nI q) : endAt s q e := Or.inr ⟨s3, p, hp, h1, e2⟩
theorem endAt_cases (hW : WF s) (h1 : eF s e 1 = nI p) (hp : p < nP s) (hq : q < nP s) (h : endAt s q e) : (eF s e 0 = nI 4 ∧ q = p) ∨ (eF s e 0 = nI 3 ∧ (pF s p 2 = nI q ∨ pF s p 3 = nI q)) := by
  have h12 := hW.nP.1
  rcases h with ⟨h4, hh⟩ | ⟨h3, p', hp', hh, h2⟩
  · exact Or.inl ⟨h4, (nI_eq (by omega) (by omega)).mp (hh.symm.trans h1)⟩
  · have : p' = p := (nI_eq (by omega) (by omega)).mp (hh.symm.trans h1)
    subst this
    exact Or.inr ⟨h3, h2⟩
/-- an event goes by: who stands -/
theorem SP_step (hW : WF s) (he : e < nE s) (hp : p < nP s) (h1 : eF s e 1 = nI p) (hS : SP I s e) {I' : mI}
    (ho : ∀ q, q < nP s → q ≠ p → ¬ endAt s q e → I' 238 q = I 238 q)
    (hz : ∀ q, q < nP s → endAt s q e → I' 238 q = nI 0)
    (hv : ¬ eF s e 0 = nI 4 → ¬ (eF s e 0 = nI 1 ∧ pF s p 1 = nI 5) → I' 238 p = nI 1) : SP I' s (e + 1) := by
  have h12 := hW.nP.1
  obtain ⟨hb, hs⟩ := WFwho hW he hp h1
  intro q hq
  refine ⟨fun hx => ?_, fun hx hbq hw => ?_⟩
  · by_cases hn : endAt s q e
    · exact hz q hq hn
    · obtain ⟨e', h2, h3⟩ := hx
      have h2' : e' < e := by
        by_cases ee : e' = e
        · subst ee; exact absurd h3 hn
        · omega
      have hu := hW.2.2.2.1 q e' e hq (by omega) he h3
      have hqp : q ≠ p := fun hh => by
        have := hu.2 (by rw [hh]; exact h1)
        omega
      rw [ho q hq hqp hn]
      exact (hS q hq).1 ⟨e', h2', h3⟩
  · have hn : ¬ endAt s q e := fun hh => hx ⟨e, by omega, hh⟩
    by_cases hqp : q = p
    · subst hqp
      refine hv (fun h4 => hn (Or.inl ⟨h4, h1⟩)) (fun h5 => ?_)
      obtain ⟨e', h2, h3, h4⟩ := hw h5.2
      have hb1 : byE s q = e := by
        rcases hs with ⟨hs, hb⟩ | ⟨_, hs⟩ | ⟨hs, _⟩ | ⟨hs, hb, _⟩ | ⟨hs, _⟩
        · exact hb
        · exact hs
        · rw [h5.1] at hs; exact absurd hs (by decide)
        · exact hb
        · rw [h5.1] at hs; exact absurd hs (by decide)
      by_cases ee : e' = e
      · subst ee; rw [h5.1] at h3; exact absurd h3 (by decide)
      · obtain ⟨hb2, hs2⟩ := WFwho hW (show e' < nE s by omega) hq h4
        omega
    · rw [ho q hq hqp hn]
      have hne : byE s q ≠ e := fun hh => by
        have := (hW.cb hq).2.2.1
        rw [hh, h1] at this
        exact hqp ((nI_eq (by omega) (by omega)).mp this).symm
      refine (hS q hq).2 (fun ⟨e', h2, h3⟩ => hx ⟨e', by omega, h3⟩) (by omega) (fun h5 => ?_)
      obtain ⟨e', h2, h3, h4⟩ := hw h5
      refine ⟨e', ?_, h3, h4⟩
      by_cases ee : e' = e
      · subst ee
        rw [h1] at h4
        exact absurd ((nI_eq (by omega) (by omega)).mp h4).symm hqp
      · omega
/-- at the ending of a copy: whether the one it comes from stands -/
theorem SP_use (hW : WF s) (he : e < nE s) (hp : p < nP s) (hcp : isCp s p) (hq : q < p) (e2 : pF s p 2 = nI q) (hby : byE s p < e) (hS : SP I s e) : (I 238 q = nI 1) = stl s q e := by
  have h12 := hW.nP.1
  have hqn : q < nP s := by omega
  have hst := from_stt hW hp hcp e2 (by omega) (e := byE s p) (Nat.le_refl _)
  have hbq : byE s q < byE s p ∧ (pF s q 1 = nI 5 → ∃ e', e' < byE s p ∧ eF s e' 0 = nI 2 ∧ eF s e' 1 = nI q) := by
    rcases (hW.per hp).1 with ⟨h1, _⟩ | ⟨_, ⟨q', hq', e2', hb, hw⟩, _⟩ | ⟨h1, _⟩
    · rcases hcp with hc | hc | hc <;> rw [h1] at hc <;> exact absurd hc (by decide)
    · have : q' = q := (nI_eq (by omega) (by omega)).mp (e2'.symm.trans e2)
      subst this
      exact ⟨hb, hw⟩
    · rcases hcp with hc | hc | hc <;> rw [h1] at hc <;> exact absurd hc (by decide)
  refine propext ⟨fun h => ?_, fun h => ?_⟩
  · intro e' h1 h2
    rw [(hS q hqn).1 ⟨e', h1, h2⟩] at h
    exact absurd h (by decide)
  · refine (hS q hqn).2 (fun ⟨e', h1, h2⟩ => h e' h1 h2) (by omega) (fun h5 => ?_)
    obtain ⟨e', h1, h2, h3⟩ := hbq.2 h5
    exact ⟨e', by omega, h2, h3⟩
set_option maxHeartbeats 4000000 in
theorem m205 (hW : WF (I 230)) (he : e < nE (I 230)) (hS : SP I (I 230) e) : ∃ I', F1 238 I' I ∧ SP I' (I 230) (e + 1) ∧ am_cal (d + 2) 205 [.ref 229, .int (nI e)] (mS I J) = some (none, mS I' J) := by
  have h12 := hW.nP.1
  have h18 := hW.nE.1
  obtain ⟨p, hp, h1, hby, hs⟩ := WFev hW he
  have a0 : nI 130 + nI 3 * nI e = nI (130 + 3 * e) := by rw [pk_mul, nI_add]
  have a1 : nI (130 + 3 * e) + nI 1 = nI (130 + 3 * e + 1) := nI_add _ _
  have i0c : (nI (130 + 3 * e)).toNatClampNeg = 130 + 3 * e := nI_clamp (by omega)
  have i0z : (nI (130 + 3 * e) < 0) = False := n_ge0 (by omega)
  have i0l : (546 ≤ 130 + 3 * e) = False := n_lef (by omega)
  have i1c : (nI (130 + 3 * e + 1)).toNatClampNeg = 130 + 3 * e + 1 := nI_clamp (by omega)
  have i1z : (nI (130 + 3 * e + 1) < 0) = False := n_ge0 (by omega)
  have i1l : (546 ≤ 130 + 3 * e + 1) = False := n_lef (by omega)
  have j0c : (nI (p)).toNatClampNeg = p := nI_clamp (by omega)
  have j0z : (nI (p) < 0) = False := n_ge0 (by omega)
  have j0l : (12 ≤ p) = False := n_lef (by omega)
  have h1' : I 230 (130 + 3 * e + 1) = nI p := h1
  have of : ∀ {I1 : mI} {f : Nat}, F1 238 I1 I → f < 10 → am_cal (d + 1) 152 [.ref 229, .int (nI p), .int (nI f)] (mS I1 J) = some (some (.int (pF (I 230) p f)), mS I1 J) := fun hF hf => by rw [m152 (by omega) hf, hF 230 (by decide)]
  have rf : F1 238 I I := fun _ _ => rfl
  have op := c_205 (d := d + 1) (b0 := 229) (x1 := nI e) (I := I) (J := J) lc_229
  by_cases s3 : eF (I 230) e 0 = nI 3
  · have s3' : I 230 (130 + 3 * e) = nI 3 := s3
    have h4 : byE (I 230) p = e ∧ pF (I 230) p 1 = nI 4 := by
      rcases hs with ⟨hs, _⟩ | ⟨hs, _⟩ | ⟨hs, _⟩ | ⟨_, hs⟩ | ⟨hs, _⟩
      · rw [s3] at hs; exact absurd hs (by decide)
      · rw [s3] at hs; exact absurd hs (by decide)
      · rw [s3] at hs; exact absurd hs (by decide)
      · exact hs
      · rw [s3] at hs; exact absurd hs (by decide)
    obtain ⟨q, r, hq, hr, e2, e3, hqr⟩ := WFjq hW hp h4.2
    have q0c : (nI (q)).toNatClampNeg = q := nI_clamp (by omega)
    have q0z : (nI (q) < 0) = False := n_ge0 (by omega)
    have q0l : (12 ≤ q) = False := n_lef (by omega)
    have r0c : (nI (r)).toNatClampNeg = r := nI_clamp (by omega)
    have r0z : (nI (r) < 0) = False := n_ge0 (by omega)
    have r0l : (12 ≤ r) = False := n_lef (by omega)
    have f1 : F1 238 (wI I 238 p (nI 1)) I := wI_F1
    have f2 : F1 238 (wI (wI I 238 p (nI 1)) 238 q (nI 0)) I := fun a ha => by rw [wI_F1 a ha, f1 a ha]
    have f3 : F1 238 (wI (wI (wI I 238 p (nI 1)) 238 q (nI 0)) 238 r (nI 0)) I := fun a ha => by rw [wI_F1 a ha, f2 a ha]
    refine ⟨_, f3, SP_step hW he hp h1 hS (fun x hx hxp hn => ?_) (fun x hx hen => ?_) (fun _ _ => ?_), ?_⟩
    · have xq : x ≠ q := fun hh => hn (endAt_3 s3 h1 hp (Or.inl (by rw [hh]; exact e2)))
      have xr : x ≠ r := fun hh => hn (endAt_3 s3 h1 hp (Or.inr (by rw [hh]; exact e3)))
      rw [wI_nk xr, wI_nk xq, wI_nk hxp]
    · rcases endAt_cases hW h1 hp hx hen with ⟨h, _⟩ | ⟨_, h | h⟩
      · rw [s3] at h; exact absurd h (by decide)
      · have : x = q := (nI_eq (by omega) (by omega)).mp (h.symm.trans e2)
        subst this
        by_cases xr : x = r
        · subst xr; exact wI_eq
        · rw [wI_nk xr, wI_eq]
      · have : x = r := (nI_eq (by omega) (by omega)).mp (h.symm.trans e3)
        subst this
        exact wI_eq
    · rw [wI_nk (show p ≠ r by omega), wI_nk (show p ≠ q by omega), wI_eq]
    · rw [op]
      simp only [lr_229_16, lc_238, ll_238, a0, a1, i0c, i0z, i0l, i1c, i1z, i1l, j0c, j0z, j0l, q0c, q0z, q0l, r0c, r0z, r0l, h1', s3', of rf (show 1 < 10 by decide), of f1 (show 2 < 10 by decide), of f2 (show 3 < 10 by decide), e2, e3, nn_0_1, nn_0_2, nn_0_3, nn_0_4, nn_0_5, nn_0_6, nn_0_7, nn_0_8, nn_1_0, nn_1_2, nn_1_3, nn_1_4, nn_1_5, nn_1_6, nn_1_7, nn_1_8, nn_2_0, nn_2_1, nn_2_3, nn_2_4, nn_2_5, nn_2_6, nn_2_7, nn_2_8, nn_3_0, nn_3_1, nn_3_2, nn_3_4, nn_3_5, nn_3_6, nn_3_7, nn_3_8, nn_4_0, nn_4_1, nn_4_2, nn_4_3, nn_4_5, nn_4_6, nn_4_7, nn_4_8, nn_5_0, nn_5_1, nn_5_2, nn_5_3, nn_5_4, nn_5_6, nn_5_7, nn_5_8, nn_6_0, nn_6_1, nn_6_2, nn_6_3, nn_6_4, nn_6_5, nn_6_7, nn_6_8, nn_7_0, nn_7_1, nn_7_2, nn_7_3, nn_7_4, nn_7_5, nn_7_6, nn_7_8, nn_8_0, nn_8_1, nn_8_2, nn_8_3, nn_8_4, nn_8_5, nn_8_6, nn_8_7, nq_0, nq_1, nq_2, nq_3, nq_4, nq_5, nq_6, nq_7, nq_8, lc_229, lr_229_0, lc_230, ll_230, bq_s, mS_c, mS_l, mS_r, mS_i, mS_j, mS_pi, mS_pj, lt_st, bq_s, bV_s, bI_s, bJ_s, bA_s, nz_0, nc_0, nz_1, nc_1, nz_2, nc_2, nz_3, nc_3, nz_4, nc_4, nz_5, nc_5, nz_6, nc_6, nz_7, nc_7, nz_8, nc_8, nz_9, nc_9, nz_10, nc_10, nz_11, nc_11, nz_12, nc_12, if_true, if_false, eq_self, true_and, and_true, false_or, or_false, true_or, or_true, false_and, and_false, not_true, not_false_eq_true, ne_eq, ite_self, ite_not, ↓reduceIte]
  · have s3' : ¬ I 230 (130 + 3 * e) = nI 3 := s3
    have ne3 : ∀ x, x < nP (I 230) → endAt (I 230) x e → eF (I 230) e 0 = nI 4 ∧ x = p := fun x hx hen => by
      rcases endAt_cases hW h1 hp hx hen with h | ⟨h, _⟩
      · exact h
      · exact absurd h s3
    have mk : ∀ v : Int32, (eF (I 230) e 0 = nI 4 → v = nI 0) → (¬ eF (I 230) e 0 = nI 4 → ¬ (eF (I 230) e 0 = nI 1 ∧ pF (I 230) p 1 = nI 5) → v = nI 1) → SP (wI I 238 p v) (I 230) (e + 1) := fun v v4 v1 => SP_step hW he hp h1 hS (fun x hx hxp hn => wI_nk hxp) (fun x hx hen => by
        obtain ⟨a, b⟩ := ne3 x hx hen
        subst b
        rw [wI_eq, v4 a]) (fun a b => by rw [wI_eq, v1 a b])
    by_cases s4 : eF (I 230) e 0 = nI 4
    · have s4' : I 230 (130 + 3 * e) = nI 4 := s4
      refine ⟨_, wI_F1, mk (nI 0) (fun _ => rfl) (fun a => absurd s4 a), ?_⟩
      rw [op]
      simp only [lr_229_16, lc_238, ll_238, a0, a1, i0c, i0z, i0l, i1c, i1z, i1l, j0c, j0z, j0l, h1', s4', nn_0_1, nn_0_2, nn_0_3, nn_0_4, nn_0_5, nn_0_6, nn_0_7, nn_0_8, nn_1_0, nn_1_2, nn_1_3, nn_1_4, nn_1_5, nn_1_6, nn_1_7, nn_1_8, nn_2_0, nn_2_1, nn_2_3, nn_2_4, nn_2_5, nn_2_6, nn_2_7, nn_2_8, nn_3_0, nn_3_1, nn_3_2, nn_3_4, nn_3_5, nn_3_6, nn_3_7, nn_3_8, nn_4_0, nn_4_1, nn_4_2, nn_4_3, nn_4_5, nn_4_6, nn_4_7, nn_4_8, nn_5_0, nn_5_1, nn_5_2, nn_5_3, nn_5_4, nn_5_6, nn_5_7, nn_5_8, nn_6_0, nn_6_1, nn_6_2, nn_6_3, nn_6_4, nn_6_5, nn_6_7, nn_6_8, nn_7_0, nn_7_1, nn_7_2, nn_7_3, nn_7_4, nn_7_5, nn_7_6, nn_7_8, nn_8_0, nn_8_1, nn_8_2, nn_8_3, nn_8_4, nn_8_5, nn_8_6, nn_8_7, nq_0, nq_1, nq_2, nq_3, nq_4, nq_5, nq_6, nq_7, nq_8, lc_229, lr_229_0, lc_230, ll_230, bq_s, mS_c, mS_l, mS_r, mS_i, mS_j, mS_pi, mS_pj, lt_st, bq_s, bV_s, bI_s, bJ_s, bA_s, nz_0, nc_0, nz_1, nc_1, nz_2, nc_2, nz_3, nc_3, nz_4, nc_4, nz_5, nc_5, nz_6, nc_6, nz_7, nc_7, nz_8, nc_8, nz_9, nc_9, nz_10, nc_10, nz_11, nc_11, nz_12, nc_12, if_true, if_false, eq_self, true_and, and_true, false_or, or_false, true_or, or_true, false_and, and_false, not_true, not_false_eq_true, ne_eq, ite_self, ite_not, ↓reduceIte]
    · have s4' : ¬ I 230 (130 + 3 * e) = nI 4 := s4
      by_cases s1 : eF (I 230) e 0 = nI 1
      · have s1' : I 230 (130 + 3 * e) = nI 1 := s1
        by_cases h5 : pF (I 230) p 1 = nI 5
        · refine ⟨_, wI_F1, mk (nI 2) (fun a => absurd a s4) (fun _ a => absurd ⟨s1, h5⟩ a), ?_⟩
          rw [op]
          simp only [lr_229_16, lc_238, ll_238, a0, a1, i0c, i0z, i0l, i1c, i1z, i1l, j0c, j0z, j0l, h1', s1', of rf (show 1 < 10 by decide), h5, nn_0_1, nn_0_2, nn_0_3, nn_0_4, nn_0_5, nn_0_6, nn_0_7, nn_0_8, nn_1_0, nn_1_2, nn_1_3, nn_1_4, nn_1_5, nn_1_6, nn_1_7, nn_1_8, nn_2_0, nn_2_1, nn_2_3, nn_2_4, nn_2_5, nn_2_6, nn_2_7, nn_2_8, nn_3_0, nn_3_1, nn_3_2, nn_3_4, nn_3_5, nn_3_6, nn_3_7, nn_3_8, nn_4_0, nn_4_1, nn_4_2, nn_4_3, nn_4_5, nn_4_6, nn_4_7, nn_4_8, nn_5_0, nn_5_1, nn_5_2, nn_5_3, nn_5_4, nn_5_6, nn_5_7, nn_5_8, nn_6_0, nn_6_1, nn_6_2, nn_6_3, nn_6_4, nn_6_5, nn_6_7, nn_6_8, nn_7_0, nn_7_1, nn_7_2, nn_7_3, nn_7_4, nn_7_5, nn_7_6, nn_7_8, nn_8_0, nn_8_1, nn_8_2, nn_8_3, nn_8_4, nn_8_5, nn_8_6, nn_8_7, nq_0, nq_1, nq_2, nq_3, nq_4, nq_5, nq_6, nq_7, nq_8, lc_229, lr_229_0, lc_230, ll_230, bq_s, mS_c, mS_l, mS_r, mS_i, mS_j, mS_pi, mS_pj, lt_st, bq_s, bV_s, bI_s, bJ_s, bA_s, nz_0, nc_0, nz_1, nc_1, nz_2, nc_2, nz_3, nc_3, nz_4, nc_4, nz_5, nc_5, nz_6, nc_6, nz_7, nc_7, nz_8, nc_8, nz_9, nc_9, nz_10, nc_10, nz_11, nc_11, nz_12, nc_12, if_true, if_false, eq_self, true_and, and_true, false_or, or_false, true_or, or_true, false_and, and_false, not_true, not_false_eq_true, ne_eq, ite_self, ite_not, ↓reduceIte]
        · refine ⟨_, wI_F1, mk (nI 1) (fun a => absurd a s4) (fun _ _ => rfl), ?_⟩
          rw [op]
          simp only [lr_229_16, lc_238, ll_238, a0, a1, i0c, i0z, i0l, i1c, i1z, i1l, j0c, j0z, j0l, h1', s1', of rf (show 1 < 10 by decide), h5, nn_0_1, nn_0_2, nn_0_3, nn_0_4, nn_0_5, nn_0_6, nn_0_7, nn_0_8, nn_1_0, nn_1_2, nn_1_3, nn_1_4, nn_1_5, nn_1_6, nn_1_7, nn_1_8, nn_2_0, nn_2_1, nn_2_3, nn_2_4, nn_2_5, nn_2_6, nn_2_7, nn_2_8, nn_3_0, nn_3_1, nn_3_2, nn_3_4, nn_3_5, nn_3_6, nn_3_7, nn_3_8, nn_4_0, nn_4_1, nn_4_2, nn_4_3, nn_4_5, nn_4_6, nn_4_7, nn_4_8, nn_5_0, nn_5_1, nn_5_2, nn_5_3, nn_5_4, nn_5_6, nn_5_7, nn_5_8, nn_6_0, nn_6_1, nn_6_2, nn_6_3, nn_6_4, nn_6_5, nn_6_7, nn_6_8, nn_7_0, nn_7_1, nn_7_2, nn_7_3, nn_7_4, nn_7_5, nn_7_6, nn_7_8, nn_8_0, nn_8_1, nn_8_2, nn_8_3, nn_8_4, nn_8_5, nn_8_6, nn_8_7, nq_0, nq_1, nq_2, nq_3, nq_4, nq_5, nq_6, nq_7, nq_8, lc_229, lr_229_0, lc_230, ll_230, bq_s, mS_c, mS_l, mS_r, mS_i, mS_j, mS_pi, mS_pj, lt_st, bq_s, bV_s, bI_s, bJ_s, bA_s, nz_0, nc_0, nz_1, nc_1, nz_2, nc_2, nz_3, nc_3, nz_4, nc_4, nz_5, nc_5, nz_6, nc_6, nz_7, nc_7, nz_8, nc_8, nz_9, nc_9, nz_10, nc_10, nz_11, nc_11, nz_12, nc_12, if_true, if_false, eq_self, true_and, and_true, false_or, or_false, true_or, or_true, false_and, and_false, not_true, not_false_eq_true, ne_eq, ite_self, ite_not, ↓reduceIte]
      · have s1' : ¬ I 230 (130 + 3 * e) = nI 1 := s1
        refine ⟨_, wI_F1, mk (nI 1) (fun a => absurd a s4) (fun _ _ => rfl), ?_⟩
        rw [op]
        simp only [lr_229_16, lc_238, ll_238, a0, a1, i0c, i0z, i0l, i1c, i1z, i1l, j0c, j0z, j0l, h1', s1', s3', s4', nn_0_1, nn_0_2, nn_0_3, nn_0_4, nn_0_5, nn_0_6, nn_0_7, nn_0_8, nn_1_0, nn_1_2, nn_1_3, nn_1_4, nn_1_5, nn_1_6, nn_1_7, nn_1_8, nn_2_0, nn_2_1, nn_2_3, nn_2_4, nn_2_5, nn_2_6, nn_2_7, nn_2_8, nn_3_0, nn_3_1, nn_3_2, nn_3_4, nn_3_5, nn_3_6, nn_3_7, nn_3_8, nn_4_0, nn_4_1, nn_4_2, nn_4_3, nn_4_5, nn_4_6, nn_4_7, nn_4_8, nn_5_0, nn_5_1, nn_5_2, nn_5_3, nn_5_4, nn_5_6, nn_5_7, nn_5_8, nn_6_0, nn_6_1, nn_6_2, nn_6_3, nn_6_4, nn_6_5, nn_6_7, nn_6_8, nn_7_0, nn_7_1, nn_7_2, nn_7_3, nn_7_4, nn_7_5, nn_7_6, nn_7_8, nn_8_0, nn_8_1, nn_8_2, nn_8_3, nn_8_4, nn_8_5, nn_8_6, nn_8_7, nq_0, nq_1, nq_2, nq_3, nq_4, nq_5, nq_6, nq_7, nq_8, lc_229, lr_229_0, lc_230, ll_230, bq_s, mS_c, mS_l, mS_r, mS_i, mS_j, mS_pi, mS_pj, lt_st, bq_s, bV_s, bI_s, bJ_s, bA_s, nz_0, nc_0, nz_1, nc_1, nz_2, nc_2, nz_3, nc_3, nz_4, nc_4, nz_5, nc_5, nz_6, nc_6, nz_7, nc_7, nz_8, nc_8, nz_9, nc_9, nz_10, nc_10, nz_11, nc_11, nz_12, nc_12, if_true, if_false, eq_self, true_and, and_true, false_or, or_false, true_or, or_true, false_and, and_false, not_true, not_false_eq_true, ne_eq, ite_self, ite_not, ↓reduceIte]
end D4
