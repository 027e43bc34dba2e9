/-! ===== steps without an event: what holds ===== -/
section F8s
variable {s s' : Rw} {p q e c d k n : Nat} {x y z u v sort : Int32}
def sameP (s s' : Rw) : Prop := s' 1 = s 1 ∧ s' 2 = s 2 ∧ ∀ k, 10 ≤ k → k < 184 → s' k = s k
theorem sP_P (h : sameP s s') : nP s' = nP s := by unfold nP; rw [h.1]
theorem sP_E (h : sameP s s') : nE s' = nE s := by unfold nE; rw [h.2.1]
theorem sP_p (h : sameP s s') (hp : p < 12) (hf : k < 10) : pF s' p k = pF s p k := h.2.2 _ (by omega) (by omega)
theorem sP_e (h : sameP s s') (he : e < 18) (hf : k < 3) : eF s' e k = eF s e k := h.2.2 _ (by omega) (by omega)
theorem sP_X (hW : WF s) (h : sameP s s') (hl : sameL s s') : Ext s s' := by
  have h12 := hW.nP.1
  have h18 := hW.nE.1
  exact ⟨by rw [sP_P h]; omega, by rw [sP_E h]; omega, fun p hp f h1 h2 h3 => sP_p h (by omega) h2, fun e he f hf => sP_e h (by omega) hf, hl⟩
/-- claims, deeds, weddings, as they should be -/
def okC (s : Rw) : Prop := ∀ c, c < nC s → (cF s c 0 = nI 0 ∨ cF s c 0 = nI 1) ∧ (∃ v, 1 ≤ v ∧ v ≤ 9999 ∧ cF s c 2 = nI v) ∧ (∃ d, d ≤ 999 ∧ cF s c 3 = nI d) ∧ (∃ p e, p < nP s ∧ e ≤ nE s ∧ cF s c 1 = nI p ∧ cF s c 4 = nI e ∧ byE s p < e ∧ (pF s p 1 = nI 5 → ∃ k, k < e ∧ eF s k 0 = nI 2 ∧ eF s k 1 = nI p))
def okD (s : Rw) : Prop := ∀ d, d < nD s → (∃ p, p < nP s ∧ dF s d 0 = nI p) ∧ (∃ y, y ≤ 999 ∧ dF s d 1 = nI y)
def okW (s : Rw) : Prop := ∀ k, k < nW s → (∃ p, p < nP s ∧ wF s k 0 = nI p) ∧ (∃ p, p < nP s ∧ wF s k 1 = nI p) ∧ (∃ d, d ≤ 999 ∧ wF s k 2 = nI d) ∧ (∃ e, e ≤ nE s ∧ wF s k 3 = nI e)
theorem WF_same (hW : WF s) (h : sameP s s') (hl : sameL s s') (hd : ∃ d, d ≤ 999 ∧ s' 0 = nI d) (hC : nC s' ≤ 12 ∧ s' 3 = nI (nC s')) (hD : nD s' ≤ 10 ∧ s' 4 = nI (nD s')) (hV : nW s' ≤ 8 ∧ s' 5 = nI (nW s')) (oc : okC s') (od : okD s') (ow : okW s') : WF s' := by
  have h12 := hW.nP.1
  have h18 := hW.nE.1
  have hx := sP_X hW h hl
  have hP := sP_P h
  have hE := sP_E h
  have h12' : nP s' ≤ 12 := by omega
  have hL := sL_n hl
  refine ⟨⟨hd, ⟨h12', by rw [hP, h.1]; exact hW.nP.2⟩, ⟨by omega, by rw [hE, h.2.1]; exact hW.nE.2⟩, hC, hD, hV, by rw [hL, hl.1]; exact hW.nL⟩, fun p hp => ?_, fun e he => ?_, fun q e e' hq he he' hend => ?_, fun e e' p he he' a b a1 b1 => ?_, oc, od, ow, fun c hc => ?_⟩
  · rw [hP] at hp
    obtain ⟨a, b, cc, dd⟩ := wfP_d (hW.per hp)
    have k0 := sP_p h (p := p) (k := 0) (by omega) (by decide)
    have k1 := sP_p h (p := p) (k := 1) (by omega) (by decide)
    have k7 := sP_p h (p := p) (k := 7) (by omega) (by decide)
    refine wfP_i (hx.xps hW hp) ⟨by rw [k0, k1]; exact a, by rw [k0, k7, hP]; exact b, ?_, ?_⟩
    · rw [k0, cc, hE]
      exact ⟨fun ⟨e, h1, h2⟩ => ⟨e, h1, (hx.xen hW h12' h1).mpr h2⟩, fun ⟨e, h1, h2⟩ => ⟨e, h1, (hx.xen hW h12' h1).mp h2⟩⟩
    · rw [k0, k1, hE]
      intro h5
      rcases dd h5 with ⟨d1, d2⟩ | ⟨d1, d2⟩
      · exact Or.inl ⟨d1, fun e he => by rw [hx.xee he (by decide), hx.xee he (by decide)]; exact d2 e he⟩
      · refine Or.inr ⟨d1, fun h2 => ?_⟩
        obtain ⟨e, h1, h3⟩ := d2 h2
        exact ⟨e, h1, by rw [hx.xee h1 (by decide), hx.xee h1 (by decide)]; exact h3⟩
  · rw [hE] at he
    exact hx.xev hW h12' he
  · rw [hE] at he he'
    rw [hP] at hq
    have := hW.2.2.2.1 q e e' hq he he' ((hx.xen hW h12' he).mp hend)
    exact ⟨fun h => this.1 ((hx.xen hW h12' he').mp h), fun h => this.2 (by rw [hx.xee he' (by decide)] at h; exact h)⟩
  · rw [hE] at he he'
    rw [hx.xee he (by decide)] at a a1
    rw [hx.xee he' (by decide)] at b b1
    exact hW.2.2.2.2.1 e e' p he he' a b a1 b1
  · rw [hL] at hc
    exact sL_w hl (hW.2.2.2.2.2.2.2.2 c hc)
theorem okC_same (hW : WF s) (h : sameP s s') (hl : sameL s s') (h3 : s' 3 = s 3) (hr : ∀ k, 184 ≤ k → k < 244 → s' k = s k) : okC s' := by
  have h12 := hW.nP.1
  have h18 := hW.nE.1
  have hc12 := hW.nC.1
  have hx := sP_X hW h hl
  intro c hc
  have hc : c < nC s := by unfold nC at hc; rw [h3] at hc; exact hc
  have e : ∀ f, f < 5 → cF s' c f = cF s c f := fun f hf => hr _ (by omega) (by omega)
  obtain ⟨b1, b2', b3, p, e0, hp, he', b4, b5, b6, b7⟩ := WFcl hW hc
  refine ⟨by rw [e 0 (by decide)]; exact b1, by rw [e 2 (by decide)]; exact b2', by rw [e 3 (by decide)]; exact b3, p, e0, by rw [sP_P h]; exact hp, by rw [sP_E h]; exact he', by rw [e 1 (by decide)]; exact b4, by rw [e 4 (by decide)]; exact b5, by rw [hx.xbb hp]; exact b6, fun h5 => ?_⟩
  rw [hx.xpp hp (by decide) (by decide) (by decide)] at h5
  obtain ⟨k, x1, x2, x3⟩ := b7 h5
  exact ⟨k, x1, by rw [hx.xee (by omega) (by decide)]; exact x2, by rw [hx.xee (by omega) (by decide)]; exact x3⟩
theorem okD_same (hW : WF s) (h : sameP s s') (h4 : s' 4 = s 4) (hr : ∀ k, 244 ≤ k → k < 264 → s' k = s k) : okD s' := by
  have h10 := hW.nD.1
  intro d hd
  have hd : d < nD s := by unfold nD at hd; rw [h4] at hd; exact hd
  have e : ∀ f, f < 2 → dF s' d f = dF s d f := fun f hf => hr _ (by omega) (by omega)
  obtain ⟨a, b⟩ := WFnd hW hd
  rw [e 0 (by decide), e 1 (by decide), sP_P h]
  exact ⟨a, b⟩
theorem okW_same (hW : WF s) (h : sameP s s') (h5 : s' 5 = s 5) (hr : ∀ k, 264 ≤ k → k < 296 → s' k = s k) : okW s' := by
  have h8 := hW.nW.1
  intro k hk
  have hk : k < nW s := by unfold nW at hk; rw [h5] at hk; exact hk
  have e : ∀ f, f < 4 → wF s' k f = wF s k f := fun f hf => hr _ (by omega) (by omega)
  rw [e 0 (by decide), e 1 (by decide), e 2 (by decide), e 3 (by decide), sP_P h, sP_E h]
  exact WFwd hW hk

theorem WF_later (hW : WF s) (h1 : ¬ x < nI 1) (h2 : ¬ nI 99 < x) (h3 : ¬ nI 999 < s 0 + x) : WF (rset s 0 (s 0 + x)) := by
  obtain ⟨dy, hdy, edy⟩ := hW.day
  have hx0 : ¬ x < 0 := fun hh => h1 (Int32.lt_trans hh (show (0 : Int32) < nI 1 by decide))
  obtain ⟨j, hj, rfl⟩ := nI_of hx0
  rw [n_lt (by decide) hj] at h2
  rw [edy, nI_add, n_lt (by decide) (by omega)] at h3
  have o : ∀ k, k ≠ 0 → rset s 0 (s 0 + nI j) k = s k := fun k hk => rset_n hk
  have hp : sameP s (rset s 0 (s 0 + nI j)) := ⟨o 1 (by decide), o 2 (by decide), fun k a b => o k (by omega)⟩
  have hl : sameL s (rset s 0 (s 0 + nI j)) := ⟨o 6 (by decide), fun k a => o k (by omega)⟩
  refine WF_same hW hp hl ⟨dy + j, by omega, by rw [rset_e, edy, nI_add]⟩ ?_ ?_ ?_ (okC_same hW hp hl (o 3 (by decide)) fun k a b => o k (by omega)) (okD_same hW hp (o 4 (by decide)) fun k a b => o k (by omega)) (okW_same hW hp (o 5 (by decide)) fun k a b => o k (by omega))
  · unfold nC; rw [o 3 (by decide)]; exact hW.nC
  · unfold nD; rw [o 4 (by decide)]; exact hW.nD
  · unfold nW; rw [o 5 (by decide)]; exact hW.nW
theorem WF_seed (hW : WF s) : WF (rset s 7 x) := by
  have o : ∀ k, k ≠ 7 → rset s 7 x k = s k := fun k hk => rset_n hk
  have hp : sameP s (rset s 7 x) := ⟨o 1 (by decide), o 2 (by decide), fun k a b => o k (by omega)⟩
  have hl : sameL s (rset s 7 x) := ⟨o 6 (by decide), fun k a => o k (by omega)⟩
  refine WF_same hW hp hl (by rw [o 0 (by decide)]; exact hW.day) ?_ ?_ ?_ (okC_same hW hp hl (o 3 (by decide)) fun k a b => o k (by omega)) (okD_same hW hp (o 4 (by decide)) fun k a b => o k (by omega)) (okW_same hW hp (o 5 (by decide)) fun k a b => o k (by omega))
  · unfold nC; rw [o 3 (by decide)]; exact hW.nC
  · unfold nD; rw [o 4 (by decide)]; exact hW.nD
  · unfold nW; rw [o 5 (by decide)]; exact hW.nW
/-- an awake one has come, and woken if he slept -/
theorem aw_come (hW : WF s) (hq : q < nP s) (ha : isAw s q) : byE s q < nE s ∧ (pF s q 1 = nI 5 → ∃ e, e < nE s ∧ eF s e 0 = nI 2 ∧ eF s e 1 = nI q) := by
  refine ⟨(hW.cb hq).2.1, fun h5 => ?_⟩
  obtain ⟨da, _, _, dd⟩ := wfP_d (hW.per hq)
  have k2 : pF s q 0 = nI 2 := by
    rcases da with h | ⟨h, h'⟩ | ⟨_, h⟩ | ⟨_, h⟩
    · exfalso
      have := ha.2
      rw [h] at this
      exact this (by decide)
    · exact absurd h5 h'
    · exfalso
      have := ha.2
      rw [h] at this
      exact this (by decide)
    · exact h
  rcases dd h5 with ⟨h, _⟩ | ⟨_, h⟩
  · rw [k2] at h; exact absurd h (by decide)
  · exact h k2
theorem clS_f (hC : nC s < 12) : (∀ k, k ≠ 3 → (k < 184 + 5 * nC s ∨ 184 + 5 * nC s + 4 < k) → clS s x y z k = s k) ∧ clS s x y z 3 = nI (nC s + 1) ∧ nC (clS s x y z) = nC s + 1 ∧ cF (clS s x y z) (nC s) 0 = x ∧ cF (clS s x y z) (nC s) 1 = y ∧ cF (clS s x y z) (nC s) 2 = z ∧ cF (clS s x y z) (nC s) 3 = s 0 ∧ cF (clS s x y z) (nC s) 4 = s 2 := by
  have e3 : clS s x y z 3 = nI (nC s + 1) := rset_e
  refine ⟨fun k a b => ?_, e3, by show (clS s x y z 3).toNatClampNeg = _; rw [e3, nI_clamp (by omega)], ?_, ?_, ?_, ?_, ?_⟩
  · unfold clS
    rw [rset_n a, rset_n (by omega), rset_n (by omega), rset_n (by omega), rset_n (by omega), rset_n (by omega)]
  · show clS s x y z (184 + 5 * nC s + 0) = x
    unfold clS
    rw [rset_n (by omega), rset_n (by omega), rset_n (by omega), rset_n (by omega), rset_n (by omega)]
    exact rset_e
  · show clS s x y z (184 + 5 * nC s + 1) = y
    unfold clS
    rw [rset_n (by omega), rset_n (by omega), rset_n (by omega), rset_n (by omega), rset_e]
  · show clS s x y z (184 + 5 * nC s + 2) = z
    unfold clS
    rw [rset_n (by omega), rset_n (by omega), rset_n (by omega), rset_e]
  · show clS s x y z (184 + 5 * nC s + 3) = s 0
    unfold clS
    rw [rset_n (by omega), rset_n (by omega), rset_e]
  · show clS s x y z (184 + 5 * nC s + 4) = s 2
    unfold clS
    rw [rset_n (by omega), rset_e]
theorem WF_claim (hW : WF s) (hC : nC s < 12) (hx : i2 x) (hp : p < nP s) (ha : isAw s p) (h1 : ¬ z < nI 1) (h2 : ¬ nI 9999 < z) : WF (clS s x (nI p) z) := by
  have h12 := hW.nP.1
  have h18 := hW.nE.1
  obtain ⟨o, e3, hn, c0, c1, c2, c3, c4⟩ := clS_f (x := x) (y := nI p) (z := z) hC
  generalize clS s x (nI p) z = s' at *
  have hp' : sameP s s' := ⟨o 1 (by decide) (by omega), o 2 (by decide) (by omega), fun k a b => o k (by omega) (by omega)⟩
  have hl : sameL s s' := ⟨o 6 (by decide) (by omega), fun k a => o k (by omega) (by omega)⟩
  have hX := sP_X hW hp' hl
  obtain ⟨dy, hdy, edy⟩ := hW.day
  have hz0 : ¬ z < 0 := fun hh => h1 (Int32.lt_trans hh (show (0 : Int32) < nI 1 by decide))
  obtain ⟨j, hj, rfl⟩ := nI_of hz0
  rw [n_lt hj (by decide)] at h1
  rw [n_lt (by decide) hj] at h2
  refine WF_same hW hp' hl (by rw [o 0 (by decide) (by omega)]; exact hW.day) ⟨by omega, by rw [hn]; exact e3⟩ ?_ ?_ (fun c hc => ?_) (okD_same hW hp' (o 4 (by decide) (by omega)) fun k a b => o k (by omega) (by omega)) (okW_same hW hp' (o 5 (by decide) (by omega)) fun k a b => o k (by omega) (by omega))
  · unfold nD; rw [o 4 (by decide) (by omega)]; exact hW.nD
  · unfold nW; rw [o 5 (by decide) (by omega)]; exact hW.nW
  · by_cases hcn : c < nC s
    · have e : ∀ f, f < 5 → cF s' c f = cF s c f := fun f hf => o _ (by omega) (by omega)
      obtain ⟨b1, b2', b3, p, e0, hp, he', b4, b5, b6, b7⟩ := WFcl hW hcn
      refine ⟨by rw [e 0 (by decide)]; exact b1, by rw [e 2 (by decide)]; exact b2', by rw [e 3 (by decide)]; exact b3, p, e0, by rw [sP_P hp']; exact hp, by rw [sP_E hp']; exact he', by rw [e 1 (by decide)]; exact b4, by rw [e 4 (by decide)]; exact b5, by rw [hX.xbb hp]; exact b6, fun h5 => ?_⟩
      rw [hX.xpp hp (by decide) (by decide) (by decide)] at h5
      obtain ⟨k, x1, x2, x3⟩ := b7 h5
      exact ⟨k, x1, by rw [hX.xee (by omega) (by decide)]; exact x2, by rw [hX.xee (by omega) (by decide)]; exact x3⟩
    · have : c = nC s := by omega
      subst this
      obtain ⟨aw1, aw2⟩ := aw_come hW hp ha
      refine ⟨by rw [c0]; exact hx, ⟨j, by omega, by omega, c2⟩, ⟨dy, hdy, c3.trans edy⟩, p, nE s, by rw [sP_P hp']; exact hp, by rw [sP_E hp']; exact Nat.le_refl _, c1, c4.trans hW.nE.2, by rw [hX.xbb hp]; exact aw1, fun h5 => ?_⟩
      rw [hX.xpp hp (by decide) (by decide) (by decide)] at h5
      obtain ⟨e, a, b, cc⟩ := aw2 h5
      exact ⟨e, a, by rw [hX.xee a (by decide)]; exact b, by rw [hX.xee a (by decide)]; exact cc⟩
theorem ddS_f (hD : nD s < 10) : (∀ k, k ≠ 4 → (k < 244 + 2 * nD s ∨ 244 + 2 * nD s + 1 < k) → ddS s x k = s k) ∧ ddS s x 4 = nI (nD s + 1) ∧ nD (ddS s x) = nD s + 1 ∧ dF (ddS s x) (nD s) 0 = x ∧ dF (ddS s x) (nD s) 1 = s 0 := by
  have e4 : ddS s x 4 = nI (nD s + 1) := rset_e
  refine ⟨fun k a b => ?_, e4, by show (ddS s x 4).toNatClampNeg = _; rw [e4, nI_clamp (by omega)], ?_, ?_⟩
  · unfold ddS
    rw [rset_n a, rset_n (by omega), rset_n (by omega)]
  · show ddS s x (244 + 2 * nD s + 0) = x
    unfold ddS
    rw [rset_n (by omega), rset_n (by omega)]
    exact rset_e
  · show ddS s x (244 + 2 * nD s + 1) = s 0
    unfold ddS
    rw [rset_n (by omega), rset_e]
theorem WF_deed (hW : WF s) (hD : nD s < 10) (hp : p < nP s) : WF (ddS s (nI p)) := by
  obtain ⟨o, e4, hn, d0, d1⟩ := ddS_f (x := nI p) hD
  generalize ddS s (nI p) = s' at *
  have hp' : sameP s s' := ⟨o 1 (by decide) (by omega), o 2 (by decide) (by omega), fun k a b => o k (by omega) (by omega)⟩
  have hl : sameL s s' := ⟨o 6 (by decide) (by omega), fun k a => o k (by omega) (by omega)⟩
  refine WF_same hW hp' hl (by rw [o 0 (by decide) (by omega)]; exact hW.day) ?_ ⟨by omega, by rw [hn]; exact e4⟩ ?_ (okC_same hW hp' hl (o 3 (by decide) (by omega)) fun k a b => o k (by omega) (by omega)) (fun d hd => ?_) (okW_same hW hp' (o 5 (by decide) (by omega)) fun k a b => o k (by omega) (by omega))
  · unfold nC; rw [o 3 (by decide) (by omega)]; exact hW.nC
  · unfold nW; rw [o 5 (by decide) (by omega)]; exact hW.nW
  · rw [sP_P hp']
    by_cases hdn : d < nD s
    · have e : ∀ f, f < 2 → dF s' d f = dF s d f := fun f hf => o _ (by omega) (by omega)
      rw [e 0 (by decide), e 1 (by decide)]
      exact WFnd hW hdn
    · have : d = nD s := by omega
      subst this
      exact ⟨⟨p, hp, d0⟩, by rw [d1]; exact hW.day⟩
theorem wdS_f (hV : nW s < 8) : (∀ k, k ≠ 5 → (k < 264 + 4 * nW s ∨ 264 + 4 * nW s + 3 < k) → wdS s x y k = s k) ∧ wdS s x y 5 = nI (nW s + 1) ∧ nW (wdS s x y) = nW s + 1 ∧ wF (wdS s x y) (nW s) 0 = x ∧ wF (wdS s x y) (nW s) 1 = y ∧ wF (wdS s x y) (nW s) 2 = s 0 ∧ wF (wdS s x y) (nW s) 3 = s 2 := by
  have e5 : wdS s x y 5 = nI (nW s + 1) := rset_e
  refine ⟨fun k a b => ?_, e5, by show (wdS s x y 5).toNatClampNeg = _; rw [e5, nI_clamp (by omega)], ?_, ?_, ?_, ?_⟩
  · unfold wdS
    rw [rset_n a, rset_n (by omega), rset_n (by omega), rset_n (by omega), rset_n (by omega)]
  · show wdS s x y (264 + 4 * nW s + 0) = x
    unfold wdS
    rw [rset_n (by omega), rset_n (by omega), rset_n (by omega), rset_n (by omega)]
    exact rset_e
  · show wdS s x y (264 + 4 * nW s + 1) = y
    unfold wdS
    rw [rset_n (by omega), rset_n (by omega), rset_n (by omega), rset_e]
  · show wdS s x y (264 + 4 * nW s + 2) = s 0
    unfold wdS
    rw [rset_n (by omega), rset_n (by omega), rset_e]
  · show wdS s x y (264 + 4 * nW s + 3) = s 2
    unfold wdS
    rw [rset_n (by omega), rset_e]
theorem WF_wed (hW : WF s) (hV : nW s < 8) (hp : p < nP s) (hq : q < nP s) : WF (wdS s (nI p) (nI q)) := by
  obtain ⟨o, e5, hn, d0, d1, d2, d3⟩ := wdS_f (x := nI p) (y := nI q) hV
  generalize wdS s (nI p) (nI q) = s' at *
  have hp' : sameP s s' := ⟨o 1 (by decide) (by omega), o 2 (by decide) (by omega), fun k a b => o k (by omega) (by omega)⟩
  have hl : sameL s s' := ⟨o 6 (by decide) (by omega), fun k a => o k (by omega) (by omega)⟩
  refine WF_same hW hp' hl (by rw [o 0 (by decide) (by omega)]; exact hW.day) ?_ ?_ ⟨by omega, by rw [hn]; exact e5⟩ (okC_same hW hp' hl (o 3 (by decide) (by omega)) fun k a b => o k (by omega) (by omega)) (okD_same hW hp' (o 4 (by decide) (by omega)) fun k a b => o k (by omega) (by omega)) (fun k hk => ?_)
  · unfold nC; rw [o 3 (by decide) (by omega)]; exact hW.nC
  · unfold nD; rw [o 4 (by decide) (by omega)]; exact hW.nD
  · rw [sP_P hp', sP_E hp']
    by_cases hkn : k < nW s
    · have e : ∀ f, f < 4 → wF s' k f = wF s k f := fun f hf => o _ (by omega) (by omega)
      rw [e 0 (by decide), e 1 (by decide), e 2 (by decide), e 3 (by decide)]
      exact WFwd hW hkn
    · have : k = nW s := by omega
      subst this
      exact ⟨⟨p, hp, d0⟩, ⟨q, hq, d1⟩, by rw [d2]; exact hW.day, nE s, Nat.le_refl _, by rw [d3]; exact hW.nE.2⟩
end F8s
