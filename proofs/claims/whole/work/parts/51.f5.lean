/-! ===== what always holds, goes on holding: wake, end ===== -/
section F5s
variable {s s' : Rw} {p q e c d k n : Nat} {x y z u v sort : Int32}
theorem evS_o {t : Rw} (h2 : k ≠ 2) (h : k < 130 + 3 * nE t ∨ 130 + 3 * nE t + 2 < k) : evS t sort x k = t k := by
  unfold evS
  rw [rset_n h2, rset_n (by omega), rset_n (by omega), rset_n (by omega)]
theorem evS_0 {t : Rw} : eF (evS t sort x) (nE t) 0 = sort := by
  show evS t sort x (130 + 3 * nE t + 0) = sort
  unfold evS
  rw [rset_n (by omega), rset_n (by omega), rset_n (by omega)]
  exact rset_e
theorem evS_1 {t : Rw} : eF (evS t sort x) (nE t) 1 = x := by
  show evS t sort x (130 + 3 * nE t + 1) = x
  unfold evS
  rw [rset_n (by omega), rset_n (by omega), rset_e]
theorem evS_2 {t : Rw} : eF (evS t sort x) (nE t) 2 = t 0 := by
  show evS t sort x (130 + 3 * nE t + 2) = t 0
  unfold evS
  rw [rset_n (by omega), rset_e]
theorem evS_n {t : Rw} (h : nE t < 18) : evS t sort x 2 = nI (nE t + 1) ∧ nE (evS t sort x) = nE t + 1 := by
  have e : evS t sort x 2 = nI (nE t + 1) := rset_e
  refine ⟨e, ?_⟩
  show (evS t sort x 2).toNatClampNeg = _
  rw [e, nI_clamp (by omega)]
theorem dyn_same (hW : WF s) (hx : Ext s s') (h12' : nP s' ≤ 12) (hE : nE s' = nE s + 1) (hp : p < nP s) (k0 : pF s' p 0 = pF s p 0) (k7 : pF s' p 7 = pF s p 7) (ne : ¬ endAt s' p (nE s)) (nw : ¬ (eF s' (nE s) 0 = nI 2 ∧ eF s' (nE s) 1 = nI p)) : wfPd s' p := by
  obtain ⟨a, b, c, d⟩ := wfP_d (hW.per hp)
  have h1 := hx.xpp hp (show 1 ≤ 1 by decide) (show 1 < 10 by decide) (show 1 ≠ 7 by decide)
  refine ⟨by rw [k0, h1]; exact a, ?_, ?_, ?_⟩
  · rw [k0, k7]
    rcases b with b | ⟨b1, j, b2', b3, b4⟩
    · exact Or.inl b
    · exact Or.inr ⟨b1, j, b2', Nat.lt_of_lt_of_le b3 hx.1, b4⟩
  · rw [k0, c]
    refine ⟨fun ⟨e, h1, h2⟩ => ⟨e, by omega, (hx.xen hW h12' h1).mpr h2⟩, fun ⟨e, h1, h2⟩ => ?_⟩
    by_cases hh : e < nE s
    · exact ⟨e, hh, (hx.xen hW h12' hh).mp h2⟩
    · have : e = nE s := by omega
      subst this; exact absurd h2 ne
  · rw [k0, h1]
    intro h5
    rcases d h5 with ⟨d1, d2⟩ | ⟨d1, d2⟩
    · refine Or.inl ⟨d1, fun e he hh => ?_⟩
      by_cases h : e < nE s
      · rw [hx.xee h (by decide), hx.xee h (by decide)] at hh
        exact d2 e h hh
      · have : e = nE s := by omega
        subst this; exact nw hh
    · refine Or.inr ⟨d1, fun h2 => ?_⟩
      obtain ⟨e, h1, h3⟩ := d2 h2
      exact ⟨e, by omega, by rw [hx.xee h1 (by decide), hx.xee h1 (by decide)]; exact h3⟩
theorem dyn_end (hE : nE s' = nE s + 1) (k0 : pF s' p 0 = nI 6) (k7 : pF s' p 7 = m9 ∨ ∃ j, p < j ∧ j < nP s' ∧ pF s' p 7 = nI j) (he : endAt s' p (nE s)) : wfPd s' p :=
  ⟨Or.inl k0, k7.imp id fun h => ⟨k0, h⟩, ⟨fun _ => ⟨nE s, by omega, he⟩, fun _ => k0⟩, fun _ => Or.inr ⟨by rw [k0]; decide, fun h => absurd h (by rw [k0]; decide)⟩⟩
/-- a kind set, an event told -/
theorem kev_Ext (hW : WF s) (hp : p < nP s) (hE : nE s < 18) : Ext s (evS (rset s (10 + 10 * p) y) sort x) ∧ sameR s (evS (rset s (10 + 10 * p) y) sort x) ∧ nP (evS (rset s (10 + 10 * p) y) sort x) = nP s ∧ nE (evS (rset s (10 + 10 * p) y) sort x) = nE s + 1 ∧ evS (rset s (10 + 10 * p) y) sort x 1 = s 1 ∧ evS (rset s (10 + 10 * p) y) sort x 2 = nI (nE s + 1) ∧ (∀ q f, q < 12 → f < 10 → 10 + 10 * q + f ≠ 10 + 10 * p → pF (evS (rset s (10 + 10 * p) y) sort x) q f = pF s q f) ∧ pF (evS (rset s (10 + 10 * p) y) sort x) p 0 = y ∧ eF (evS (rset s (10 + 10 * p) y) sort x) (nE s) 0 = sort ∧ eF (evS (rset s (10 + 10 * p) y) sort x) (nE s) 1 = x ∧ eF (evS (rset s (10 + 10 * p) y) sort x) (nE s) 2 = s 0 := by
  have h12 := hW.nP.1
  have hn : nE (rset s (10 + 10 * p) y) = nE s := nE_set (by omega)
  have n2 := evS_n (t := rset s (10 + 10 * p) y) (sort := sort) (x := x) (by rw [hn]; exact hE)
  rw [hn] at n2
  have o : ∀ k, k ≠ 2 → k ≠ 10 + 10 * p → (k < 130 + 3 * nE s ∨ 130 + 3 * nE s + 2 < k) → evS (rset s (10 + 10 * p) y) sort x k = s k := fun k h2 h3 h4 => by
    rw [evS_o h2 (by rw [hn]; exact h4), rset_n h3]
  have e1 : evS (rset s (10 + 10 * p) y) sort x 1 = s 1 := o 1 (by decide) (by omega) (by omega)
  have hnP : nP (evS (rset s (10 + 10 * p) y) sort x) = nP s := by unfold nP; rw [e1]
  have pf : ∀ q f, q < 12 → f < 10 → 10 + 10 * q + f ≠ 10 + 10 * p → pF (evS (rset s (10 + 10 * p) y) sort x) q f = pF s q f := fun q f hq hf hh => o _ (by omega) hh (by omega)
  refine ⟨⟨by omega, by omega, fun q hq f h1 h2 h3 => pf q f (by omega) h2 (by omega), fun e he f hf => o _ (by omega) (by omega) (by omega), o 6 (by decide) (by omega) (by omega), fun k hk => o k (by omega) (by omega) (by omega)⟩, ⟨o 0 (by decide) (by omega) (by omega), o 3 (by decide) (by omega) (by omega), o 4 (by decide) (by omega) (by omega), o 5 (by decide) (by omega) (by omega), fun k h1 h2 => o k (by omega) (by omega) (by omega)⟩, hnP, n2.2, e1, n2.1, pf, ?_, ?_, ?_, ?_⟩
  · show evS _ sort x (10 + 10 * p + 0) = y
    rw [evS_o (by omega) (by rw [hn]; omega)]
    exact rset_e
  · have := evS_0 (t := rset s (10 + 10 * p) y) (sort := sort) (x := x)
    rw [hn] at this; exact this
  · have := evS_1 (t := rset s (10 + 10 * p) y) (sort := sort) (x := x)
    rw [hn] at this; exact this
  · have := evS_2 (t := rset s (10 + 10 * p) y) (sort := sort) (x := x)
    rw [hn, rset_n (by omega)] at this; exact this
theorem ended6 (hW : WF s) (hq : q < nP s) (he : e < nE s) (h : endAt s q e) : pF s q 0 = nI 6 := (wfP_d (hW.per hq)).2.2.1.mpr ⟨e, he, h⟩
theorem WF_end (hW : WF s) (hp : p < nP s) (h6 : ¬ pF s p 0 = nI 6) (hE : nE s < 18) : WF (enS s p) := by
  have h12 := hW.nP.1
  have h18 := hW.nE.1
  obtain ⟨hx, hr, hP, hEE, e1, e2, pf, k0, v0, v1, v2⟩ := kev_Ext (y := nI 6) (sort := nI 4) (x := nI p) hW hp hE
  show WF (evS (rset s (10 + 10 * p) (nI 6)) (nI 4) (nI p))
  generalize evS (rset s (10 + 10 * p) (nI 6)) (nI 4) (nI p) = s' at *
  have hend : ∀ q, q < 12 → (endAt s' q (nE s) ↔ q = p) := fun q hq => by
    refine ⟨fun h => ?_, fun h => Or.inl ⟨v0, by rw [h]; exact v1⟩⟩
    rcases h with ⟨_, h⟩ | ⟨h, _⟩
    · exact (nI_eq (by omega) (by omega)).mp (h.symm.trans v1)
    · exact absurd (h.symm.trans v0) (by decide)
  have k7 : pF s' p 7 = m9 := by
    have : pF s' p 7 = pF s p 7 := pf p 7 (by omega) (by decide) (by omega)
    rw [this]
    rcases (wfP_d (hW.per hp)).2.1 with h | ⟨h, _⟩
    · exact h
    · exact absurd h h6
  refine WF_ev hW hx hr ⟨by rw [hP]; exact h12, ?_⟩ ⟨hEE, by omega, by rw [hEE]; exact e2⟩ (fun q h1 h2 => by omega) (fun q hq => ?_) ?_ (fun q e hq he h => ⟨fun hh => ?_, fun hh => ?_⟩) (fun e q he a b h => absurd (h.symm.trans v0) (by decide))
  · rw [hP]
    exact e1.trans hW.nP.2
  · have hq : q < nP s := by rw [hP] at hq; exact hq
    by_cases hqp : q = p
    · subst hqp
      exact dyn_end hEE k0 (Or.inl k7) ((hend q (by omega)).mpr rfl)
    · exact dyn_same hW hx (by rw [hP]; exact h12) hEE hq (pf q 0 (by omega) (by decide) (by omega)) (pf q 7 (by omega) (by decide) (by omega)) (fun h => hqp ((hend q (by omega)).mp h)) (fun h => absurd (h.1.symm.trans v0) (by decide))
  · obtain ⟨dd, hd, ed⟩ := hW.day
    have hb := hx.xbb hp
    refine ⟨⟨p, by rw [hP]; exact hp, v1, ?_, Or.inr (Or.inr (Or.inr (Or.inr ⟨v0, ?_⟩)))⟩, dd, hd, v2.trans ed⟩
    · have hb' : byE s' p = byE s p := hb
      rw [hb']; have := (hW.cb hp).2.1; omega
    · have hb' : byE s' p = byE s p := hb
      rw [hb']; exact (hW.cb hp).2.1
  · have := (hend q (by omega)).mp hh
    subst this
    exact h6 (ended6 hW hq he h)
  · have : q = p := (nI_eq (by omega) (by omega)).mp (hh.symm.trans v1)
    subst this
    exact h6 (ended6 hW hq he h)
end F5s
