/-! ===== the law is taken ===== -/
section J14s
variable {s s' : Rw} {p q e c d k n : Nat} {x y z u v sort : Int32}
def ExtW (s s' : Rw) : Prop := nP s ≤ nP s' ∧ nE s ≤ nE s' ∧ (∀ p, p < nP s → ∀ f, 1 ≤ f → f < 10 → f ≠ 7 → pF s' p f = pF s p f) ∧ (∀ e, e < nE s → ∀ f, f < 3 → eF s' e f = eF s e f)
theorem ExtW.xpp (h : ExtW s s') (hp : p < nP s) {f : Nat} (h1 : 1 ≤ f) (h2 : f < 10) (h3 : f ≠ 7) : pF s' p f = pF s p f := h.2.2.1 p hp f h1 h2 h3
theorem ExtW.xee (h : ExtW s s') (he : e < nE s) {f : Nat} (h1 : f < 3) : eF s' e f = eF s e f := h.2.2.2 e he f h1
theorem ExtW.xbb (h : ExtW s s') (hp : p < nP s) : byE s' p = byE s p := by unfold byE; rw [h.xpp hp (by decide) (by decide) (by decide)]
theorem ExtW.xcc (h : ExtW s s') (hp : p < nP s) : isCp s' p ↔ isCp s p := by unfold isCp; rw [h.xpp hp (by decide) (by decide) (by decide)]
theorem ExtW.xen (h : ExtW s s') (hW : WF s) (h12 : nP s' ≤ 12) (he : e < nE s) : endAt s' q e ↔ endAt s q e := by
  obtain ⟨p, hp, e1, _⟩ := WFev hW he
  unfold endAt
  rw [h.xee he (by decide), h.xee he (by decide)]
  refine ⟨fun hh => hh.imp id fun ⟨h3, p', hp', e1', e2⟩ => ?_, fun hh => hh.imp id fun ⟨h3, p', hp', e1', e2⟩ => ?_⟩
  · have h12b := hW.nP.1
    have : p' = p := (nI_eq (by omega) (by omega)).mp (e1'.symm.trans e1)
    subst this
    refine ⟨h3, p', hp, e1', ?_⟩
    rw [h.xpp hp (by decide) (by decide) (by decide), h.xpp hp (by decide) (by decide) (by decide)] at e2
    exact e2
  · refine ⟨h3, p', Nat.lt_of_lt_of_le hp' h.1, e1', ?_⟩
    rw [h.xpp hp' (by decide) (by decide) (by decide), h.xpp hp' (by decide) (by decide) (by decide)]
    exact e2
theorem ExtW.xps (h : ExtW s s') (hW : WF s) (hp : p < nP s) : wfPs s' p := by
  have h12 := hW.nP.1
  obtain ⟨h1, h2, h3, h4, h5, h6, h7⟩ := wfP_s (hW.per hp)
  have pe : ∀ f, 1 ≤ f → f < 10 → f ≠ 7 → pF s' p f = pF s p f := fun f a b c => h.xpp hp a b c
  have hb := h.xbb hp
  refine ⟨?_, by rw [pe 4 (by decide) (by decide) (by decide)]; exact h2, by rw [pe 8 (by decide) (by decide) (by decide)]; exact h3, ?_⟩
  · rw [pe 1 (by decide) (by decide) (by decide), pe 2 (by decide) (by decide) (by decide), pe 3 (by decide) (by decide) (by decide), hb, h.xee h5 (by decide), pe 5 (by decide) (by decide) (by decide), pe 6 (by decide) (by decide) (by decide), h.xcc hp]
    rcases h1 with h1 | ⟨a1, ⟨q, hq, a2, a3, a4⟩, a5⟩ | ⟨a1, ⟨q, r, hq, hr, hn, a2, a3, a4, a5⟩, a6⟩
    · exact Or.inl h1
    · refine Or.inr (Or.inl ⟨a1, ⟨q, hq, a2, by rw [h.xbb (by omega)]; exact a3, fun h5' => ?_⟩, a5⟩)
      rw [h.xpp (show q < nP s by omega) (by decide) (by decide) (by decide)] at h5'
      obtain ⟨e, b1, b2', b3⟩ := a4 h5'
      exact ⟨e, b1, by rw [h.xee (by omega) (by decide)]; exact b2', by rw [h.xee (by omega) (by decide)]; exact b3⟩
    · exact Or.inr (Or.inr ⟨a1, ⟨q, r, hq, hr, hn, a2, a3, by rw [h.xbb (by omega)]; exact a4, by rw [h.xbb (by omega)]; exact a5⟩, a6⟩)
  · rw [pe 9 (by decide) (by decide) (by decide), hb, h.xee h5 (by decide), h.xee h5 (by decide), pe 4 (by decide) (by decide) (by decide)]
    exact ⟨h4, Nat.lt_of_lt_of_le h5 h.2.1, h6, h7⟩
theorem ExtW.xev (h : ExtW s s') (hW : WF s) (h12' : nP s' ≤ 12) (he : e < nE s) : wfE s' e := by
  have h12 := hW.nP.1
  obtain ⟨⟨p, hp, a1, a2, a3⟩, d, a4, a5⟩ := hW.eve he
  refine ⟨⟨p, Nat.lt_of_lt_of_le hp h.1, by rw [h.xee he (by decide)]; exact a1, by rw [h.xbb hp]; exact a2, ?_⟩, d, a4, by rw [h.xee he (by decide)]; exact a5⟩
  rw [h.xee he (by decide), h.xbb hp, h.xpp hp (by decide) (by decide) (by decide)]
  exact a3
theorem sP_W (hW : WF s) (h : sameP s s') : ExtW s s' := by
  have h12 := hW.nP.1
  have h18 := hW.nE.1
  exact ⟨by rw [sP_P h]; omega, by rw [sP_E h]; omega, fun p hp f h1 h2 h3 => sP_p h (by omega) h2, fun e he f hf => sP_e h (by omega) hf⟩
theorem WF_law (hW : WF s) (h : sameP s s') (hL1 : nL s' ≤ 10 ∧ s' 6 = nI (nL s')) (hL2 : ∀ c, c < nL s' → wfL s' c) (hd : ∃ d, d ≤ 999 ∧ s' 0 = nI d) (hC : nC s' ≤ 12 ∧ s' 3 = nI (nC s')) (hD : nD s' ≤ 10 ∧ s' 4 = nI (nD s')) (hV : nW s' ≤ 8 ∧ s' 5 = nI (nW s')) (oc : okC s') (od : okD s') (ow : okW s') : WF s' := by
  have h12 := hW.nP.1
  have h18 := hW.nE.1
  have hx := sP_W hW h
  have hP := sP_P h
  have hE := sP_E h
  have h12' : nP s' ≤ 12 := by omega
  refine ⟨⟨hd, ⟨h12', by rw [hP, h.1]; exact hW.nP.2⟩, ⟨by omega, by rw [hE, h.2.1]; exact hW.nE.2⟩, hC, hD, hV, hL1⟩, fun p hp => ?_, fun e he => ?_, fun q e e' hq he he' hend => ?_, fun e e' p he he' a b a1 b1 => ?_, oc, od, ow, fun c hc => ?_⟩
  · rw [hP] at hp
    obtain ⟨a, b, cc, dd⟩ := wfP_d (hW.per hp)
    have k0 := sP_p h (p := p) (k := 0) (by omega) (by decide)
    have k1 := sP_p h (p := p) (k := 1) (by omega) (by decide)
    have k7 := sP_p h (p := p) (k := 7) (by omega) (by decide)
    refine wfP_i (hx.xps hW hp) ⟨by rw [k0, k1]; exact a, by rw [k0, k7, hP]; exact b, ?_, ?_⟩
    · rw [k0, cc, hE]
      exact ⟨fun ⟨e, h1, h2⟩ => ⟨e, h1, (hx.xen hW h12' h1).mpr h2⟩, fun ⟨e, h1, h2⟩ => ⟨e, h1, (hx.xen hW h12' h1).mp h2⟩⟩
    · rw [k0, k1, hE]
      intro h5
      rcases dd h5 with ⟨d1, d2⟩ | ⟨d1, d2⟩
      · exact Or.inl ⟨d1, fun e he => by rw [hx.xee he (by decide), hx.xee he (by decide)]; exact d2 e he⟩
      · refine Or.inr ⟨d1, fun h2 => ?_⟩
        obtain ⟨e, h1, h3⟩ := d2 h2
        exact ⟨e, h1, by rw [hx.xee h1 (by decide), hx.xee h1 (by decide)]; exact h3⟩
  · rw [hE] at he
    exact hx.xev hW h12' he
  · rw [hE] at he he'
    rw [hP] at hq
    have := hW.2.2.2.1 q e e' hq he he' ((hx.xen hW h12' he).mp hend)
    exact ⟨fun h => this.1 ((hx.xen hW h12' he').mp h), fun h => this.2 (by rw [hx.xee he' (by decide)] at h; exact h)⟩
  · rw [hE] at he he'
    rw [hx.xee he (by decide)] at a a1
    rw [hx.xee he' (by decide)] at b b1
    exact hW.2.2.2.2.1 e e' p he he' a b a1 b1
  · exact hL2 c hc
theorem okC_law (hW : WF s) (h : sameP s s') (h3 : s' 3 = s 3) (hr : ∀ k, 184 ≤ k → k < 244 → s' k = s k) : okC s' := by
  have h12 := hW.nP.1
  have h18 := hW.nE.1
  have hc12 := hW.nC.1
  have hx := sP_W hW h
  intro c hc
  have hc : c < nC s := by unfold nC at hc; rw [h3] at hc; exact hc
  have e : ∀ f, f < 5 → cF s' c f = cF s c f := fun f hf => hr _ (by omega) (by omega)
  obtain ⟨b1, b2', b3, p, e0, hp, he', b4, b5, b6, b7⟩ := WFcl hW hc
  refine ⟨by rw [e 0 (by decide)]; exact b1, by rw [e 2 (by decide)]; exact b2', by rw [e 3 (by decide)]; exact b3, p, e0, by rw [sP_P h]; exact hp, by rw [sP_E h]; exact he', by rw [e 1 (by decide)]; exact b4, by rw [e 4 (by decide)]; exact b5, by rw [hx.xbb hp]; exact b6, fun h5 => ?_⟩
  rw [hx.xpp hp (by decide) (by decide) (by decide)] at h5
  obtain ⟨k, x1, x2, x3⟩ := b7 h5
  exact ⟨k, x1, by rw [hx.xee (by omega) (by decide)]; exact x2, by rw [hx.xee (by omega) (by decide)]; exact x3⟩
end J14s
section J14t
variable {I I' : mI} {J : mJ} {s s' : Rw} {p q e c d k n : Nat} {cl : List Cl}
theorem lw_P : sameP s (lawS s cl) := ⟨lw_o (by omega) (by decide) (by decide), lw_o (by omega) (by decide) (by decide), fun k h1 h2 => lw_o (by omega) (by omega) (by omega)⟩
theorem lw_WF (hW : WF s) (h : okCs cl) (h2 : (eMs (opsOf cl)).length ≤ 200) : WF (lawS s cl) := by
  have o : ∀ k, k < 296 → k ≠ 6 → k ≠ 8 → lawS s cl k = s k := fun k h h6 h8 => lw_o (Or.inl h) h6 h8
  have hn := lw_nL (s := s) h
  have h10 := h.1
  refine WF_law hW lw_P ⟨by rw [hn]; exact h10, by rw [lw_6, hn]⟩ (fun c hc => lw_wfL h h2 (by rw [hn] at hc; exact hc)) (by rw [o 0 (by omega) (by decide) (by decide)]; exact hW.day) ?_ ?_ ?_ ?_ ?_ ?_
  · have e : nC (lawS s cl) = nC s := by unfold nC; rw [o 3 (by omega) (by decide) (by decide)]
    rw [e, o 3 (by omega) (by decide) (by decide)]; exact hW.nC
  · have e : nD (lawS s cl) = nD s := by unfold nD; rw [o 4 (by omega) (by decide) (by decide)]
    rw [e, o 4 (by omega) (by decide) (by decide)]; exact hW.nD
  · have e : nW (lawS s cl) = nW s := by unfold nW; rw [o 5 (by omega) (by decide) (by decide)]
    rw [e, o 5 (by omega) (by decide) (by decide)]; exact hW.nW
  · exact okC_law hW lw_P (o 3 (by omega) (by decide) (by decide)) (fun k h1 h2 => o k (by omega) (by omega) (by omega))
  · exact okD_same hW lw_P (o 4 (by omega) (by decide) (by decide)) (fun k h1 h2 => o k (by omega) (by omega) (by omega))
  · exact okW_same hW lw_P (o 5 (by omega) (by decide) (by decide)) (fun k h1 h2 => o k (by omega) (by omega) (by omega))
theorem lw_hi : hiS (lawS s cl) s := fun j hj => lw_o (Or.inr hj) (by omega) (by omega)
/-- the law is copied, then each copy settled by it -/
theorem k84 (hR : Rep I 1 s) (hW : WF s) (h : okCs cl) (h2 : (eMs (opsOf cl)).length ≤ 200) (hL : LwC I cl) : ∃ I', (∀ a, (a < 1 ∨ 64 ≤ a) → I' a = I a) ∧ Rep I' 1 (lawS s cl) ∧ am_cal (d + 7) 84 [.ref 1, .ref 200] (mS I J) = some (none, mS I' J) := by
  have hW' := lw_WF hW h h2
  have hRL := lw_RepL (s := s) h h2 hL
  have h12 := hW.nP.1
  have h18 := hW.nE.1
  have hP : nP (lawS s cl) = nP s := sP_P lw_P
  have hE : nE (lawS s cl) = nE s := sP_E lw_P
  have o : ∀ k, k < 296 → k ≠ 6 → k ≠ 8 → lawS s cl k = s k := fun k h h6 h8 => lw_o (Or.inl h) h6 h8
  have hx : ExtW s (lawS s cl) := sP_W hW lw_P
  obtain ⟨I0, a1, a2, a3⟩ := k14 (d := d + 5) (J := J) (l := 8) (m := 200) (Or.inl rfl) (Or.inr (Or.inr (Or.inr rfl))) (by omega) hRL hW'.nL.1 hW'.nL.2
  have pe : ∀ p, p < nP s → ∀ f, f < 10 → pF (lawS s cl) p f = pF s p f := fun p hp f hf => sP_p lw_P (by omega) hf
  have cpe : ∀ p, p < nP s → (isCp (lawS s cl) p ↔ isCp s p) := fun p hp => hx.xcc hp
  have lw_P' : sameP s (lawS s cl) := lw_P
  generalize hs' : lawS s cl = s' at *
  have p0 : ∀ p, p < nP s → I0 (1 + 13 + p) = I (1 + 13 + p) := fun p hp => a1 _ (by omega)
  -- those below k are settled
  have lp : ∀ n k (I1 : mI), k + n = nP s → (∀ a, a ≠ 13 → (a < 14 ∨ 14 + k ≤ a) → I1 a = I0 a) → (∀ p, p < k → (∀ f, f ≠ 10 → f ≠ 11 → I1 (1 + 13 + p) f = I0 (1 + 13 + p) f) ∧ I1 (1 + 13 + p) 10 = b2 (isVd s' p) ∧ I1 (1 + 13 + p) 11 = b2 (isRs s' p)) → ∃ I', (∀ a, a ≠ 13 → (a < 14 ∨ 14 + nP s ≤ a) → I' a = I0 a) ∧ (∀ p, p < nP s → (∀ f, f ≠ 10 → f ≠ 11 → I' (1 + 13 + p) f = I0 (1 + 13 + p) f) ∧ I' (1 + 13 + p) 10 = b2 (isVd s' p) ∧ I' (1 + 13 + p) 11 = b2 (isRs s' p)) ∧ am_X (am_cal (d + 6)) 84 6 [.ref 1, .null, .int (nI k)] [] (mS I1 J) = some (none, mS I' J) := by
    intro n
    induction n with
    | zero =>
      intro k I1 hk h1 h2
      have hk' : k = nP s := by omega
      subst hk'
      refine ⟨I1, h1, h2, ?_⟩
      have h9 : I1 1 9 = nI (nP s) := by rw [h1 1 (by decide) (by omega), a1 1 (by omega)]; exact hR.ppl.trans hW.nP.2
      rw [e_84_6]
      simp only [w_C W1, h9, n_lt (show nP s < 2 ^ 31 by omega) (show nP s < 2 ^ 31 by omega), Nat.lt_irrefl, bq_s, mS_c, mS_l, mS_r, mS_i, mS_j, mS_pi, mS_pj, lt_st, bq_s, bV_s, bI_s, bJ_s, bA_s, nz_0, nc_0, nz_1, nc_1, nz_2, nc_2, nz_3, nc_3, nz_4, nc_4, nz_5, nc_5, nz_6, nc_6, nz_7, nc_7, nz_8, nc_8, nz_9, nc_9, nz_10, nc_10, nz_11, nc_11, nz_12, nc_12, if_true, if_false, eq_self, true_and, and_true, false_or, or_false, true_or, or_true, false_and, and_false, not_true, not_false_eq_true, ne_eq, ite_self, ite_not, ↓reduceIte, n_101, n_107, n_11]
    | succ n ih =>
      intro k I1 hk h1 h2
      have hkn : k < nP s := by omega
      have h9 : I1 1 9 = nI (nP s) := by rw [h1 1 (by decide) (by omega), a1 1 (by omega)]; exact hR.ppl.trans hW.nP.2
      have r1 : I1 (1 + 13 + k) = I0 (1 + 13 + k) := h1 _ (by omega) (by omega)
      have hL1 : RepL I1 (1 + 7) s' := a2.fr fun a h h' => h1 a (by omega) (by omega)
      obtain ⟨I2, b1, b2', b3, b4, b5⟩ := k85 (d := d + 1) (J := J) (p := k) W1 hW' hL1 (by rw [hP]; exact hkn) (fun f hf => by rw [r1, p0 k hkn, pe k hkn f (by omega)]; exact hR.pF hkn hf) (by rw [r1, p0 k hkn, pe k hkn 8 (by decide)]; exact hR.lv hkn)
      have set : I2 (1 + 13 + k) 10 = b2 (isVd s' k) ∧ I2 (1 + 13 + k) 11 = b2 (isRs s' k) := by
        by_cases hc : isCp s' k
        · exact b3 hc
        · have hcs : ¬ isCp s k := fun h => hc ((cpe k hkn).mpr h)
          rw [b4 hc, r1, p0 k hkn, hR.vd hkn, hR.rs hkn]
          refine ⟨?_, ?_⟩
          · rw [b2_f (fun h => hcs h.1), b2_f (fun h => hc h.1)]
          · rw [b2_f (fun h => hcs (Or.inr (Or.inr h.1))), b2_f (fun h => hc (Or.inr (Or.inr h.1)))]
      obtain ⟨I', c1, c2, c3⟩ := ih (k + 1) I2 (by omega) (fun a h h' => by rw [b1 a (by omega) (by omega)]; exact h1 a h (by omega)) (fun p hp => by
        by_cases e : p = k
        · subst e
          exact ⟨fun f h h' => by rw [b2' f h h', r1], set⟩
        · have := h2 p (by omega)
          rw [b1 (1 + 13 + p) (by omega) (by omega)]
          exact this)
      refine ⟨I', c1, c2, ?_⟩
      rw [e_84_6]
      simp only [w_C W1, h9, n_lt (show k < 2 ^ 31 by omega) (show nP s < 2 ^ 31 by omega), eq_true hkn, show d + 6 = d + 1 + 5 from rfl, b5, nI_add, bq_s, mS_c, mS_l, mS_r, mS_i, mS_j, mS_pi, mS_pj, lt_st, bq_s, bV_s, bI_s, bJ_s, bA_s, nz_0, nc_0, nz_1, nc_1, nz_2, nc_2, nz_3, nc_3, nz_4, nc_4, nz_5, nc_5, nz_6, nc_6, nz_7, nc_7, nz_8, nc_8, nz_9, nc_9, nz_10, nc_10, nz_11, nc_11, nz_12, nc_12, if_true, if_false, eq_self, true_and, and_true, false_or, or_false, true_or, or_true, false_and, and_false, not_true, not_false_eq_true, ne_eq, ite_self, ite_not, ↓reduceIte, n_101, n_107, n_11]
      exact c3
  obtain ⟨I', c1, c2, c3⟩ := lp (nP s) 0 I0 (by omega) (fun _ _ _ => rfl) (fun p hp => absurd hp (Nat.not_lt_zero p))
  have k1 : I' 1 = I 1 := by rw [c1 1 (by decide) (by omega), a1 1 (by omega)]
  refine ⟨I', fun a ha => by rw [c1 a (by omega) (by omega), a1 a (by omega)], ⟨?_, fun p hp => ?_, fun e he f hf => ?_, fun c hc f hf => ?_, fun k hk f hf => ?_, fun d hd => ?_, ?_⟩, ?_⟩
  · rw [k1, o 0 (by omega) (by decide) (by decide), o 1 (by omega) (by decide) (by decide), o 2 (by omega) (by decide) (by decide), o 3 (by omega) (by decide) (by decide), o 4 (by omega) (by decide) (by decide), o 5 (by omega) (by decide) (by decide), o 7 (by omega) (by decide) (by decide)]
    exact hR.1
  · rw [hP] at hp
    obtain ⟨d1, d2, d3⟩ := c2 p hp
    have pr := hR.2.1 p hp
    have hen : ∀ e, e < nE s → (endAt s' p e ↔ endAt s p e) := fun e he => hx.xen hW (by rw [hP]; exact h12) he
    refine ⟨fun f hf => by rw [d1 f (by omega) (by omega), p0 p hp, pe p hp f (by omega)]; exact hR.pF hp hf, by rw [d1 9 (by decide) (by decide), p0 p hp, pe p hp 8 (by decide)]; exact hR.lv hp, d2, d3, fun e he hen' => ?_, fun hno => ?_⟩
    · rw [hE] at he
      rw [d1 8 (by decide) (by decide), p0 p hp]
      exact pr.2.2.2.2.1 e he ((hen e he).mp hen')
    · rw [d1 8 (by decide) (by decide), p0 p hp]
      exact pr.2.2.2.2.2 (fun e he hh => hno e (by rw [hE]; exact he) ((hen e he).mpr hh))
  · rw [hE] at he
    rw [c1 (1 + 25 + e) (by omega) (by omega), a1 (1 + 25 + e) (by omega), show eF s' e f = eF s e f from sP_e lw_P' (by omega) hf]
    exact hR.eF he hf
  · have e3 : nC s' = nC s := by unfold nC; rw [o 3 (by omega) (by decide) (by decide)]
    have hC12 := hW.nC.1
    rw [e3] at hc
    rw [c1 (1 + 43 + c) (by omega) (by omega), a1 (1 + 43 + c) (by omega), show cF s' c f = cF s c f from o _ (by omega) (by omega) (by omega)]
    exact hR.cF hc hf
  · have e3 : nW s' = nW s := by unfold nW; rw [o 5 (by omega) (by decide) (by decide)]
    have hC12 := hW.nW.1
    rw [e3] at hk
    rw [c1 (1 + 55 + k) (by omega) (by omega), a1 (1 + 55 + k) (by omega), show wF s' k f = wF s k f from o _ (by omega) (by omega) (by omega)]
    exact hR.wF hk hf
  · have e3 : nD s' = nD s := by unfold nD; rw [o 4 (by omega) (by decide) (by decide)]
    have hC12 := hW.nD.1
    rw [e3] at hd
    rw [c1 (1 + 5) (by omega) (by omega), c1 (1 + 6) (by omega) (by omega), a1 (1 + 5) (by omega), a1 (1 + 6) (by omega), show dF s' d 0 = dF s d 0 from o _ (by omega) (by omega) (by omega), show dF s' d 1 = dF s d 1 from o _ (by omega) (by omega) (by omega)]
    exact ⟨hR.d0 hd, hR.d1 hd⟩
  · exact a2.fr fun a h h' => c1 a (by omega) (by omega)
  · rw [c_84 (w_C W1)]
    simp only [w_C W1, w_R6 W1, show 1 + 7 = 8 from rfl, show d + 6 = d + 5 + 1 from rfl, a3, bq_s, mS_c, mS_l, mS_r, mS_i, mS_j, mS_pi, mS_pj, lt_st, bq_s, bV_s, bI_s, bJ_s, bA_s, nz_0, nc_0, nz_1, nc_1, nz_2, nc_2, nz_3, nc_3, nz_4, nc_4, nz_5, nc_5, nz_6, nc_6, nz_7, nc_7, nz_8, nc_8, nz_9, nc_9, nz_10, nc_10, nz_11, nc_11, nz_12, nc_12, if_true, if_false, eq_self, true_and, and_true, false_or, or_false, true_or, or_true, false_and, and_false, not_true, not_false_eq_true, ne_eq, ite_self, ite_not, ↓reduceIte, n_101, n_107, n_11]
    exact c3
end J14t
