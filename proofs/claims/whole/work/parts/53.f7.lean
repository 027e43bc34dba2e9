/-! ===== born, copied, joined: what holds ===== -/
section F7s
variable {s s' : Rw} {p q e c d k n : Nat} {x y z u v sort : Int32}
theorem noend {t : Rw} (h : eF t e 0 = sort) (h3 : ¬ sort = nI 3) (h4 : ¬ sort = nI 4) : ¬ endAt t q e := fun hh => by
  rcases hh with ⟨a, _⟩ | ⟨a, _⟩
  · exact h4 (h.symm.trans a)
  · exact h3 (h.symm.trans a)
theorem WF_born (hW : WF s) (hR : okR s) : WF (coS s (nI 0) (nI 1) m9 m9) := by
  have h12 := hR.1
  obtain ⟨hN, pf, p0, p1, p2, p3, p8, _⟩ := coS_NF (sort := nI 0) (x := nI 1) (y := m9) (z := m9) hW hR
  have v0 := hN.2.2.2.2.2.2.1
  refine WF_new hW hR hN (Or.inl rfl) (Or.inl ⟨rfl, p1, p2, p3⟩) (Or.inr p8) (fun q hq => ?_) (fun q hq _ => noend v0 (by decide) (by decide)) (noend v0 (by decide) (by decide))
  exact dyn_same hW hN.1 (by have := hN.2.2.1; omega) hN.2.2.2.2.1 hq (pf q 0 hq (by decide)) (pf q 7 hq (by decide)) (noend v0 (by decide) (by decide)) (fun h => absurd (v0.symm.trans h.1) (by decide))
/-- the copy's row -/
theorem cpS_NF (hW : WF s) (hR : okR s) : NF s (cpS s x y z u v) (nI 1) ∧ (∀ q f, q < nP s → f < 10 → pF (cpS s x y z u v) q f = pF s q f) ∧ pF (cpS s x y z u v) (nP s) 0 = y ∧ pF (cpS s x y z u v) (nP s) 1 = y ∧ pF (cpS s x y z u v) (nP s) 2 = x ∧ pF (cpS s x y z u v) (nP s) 3 = m9 ∧ pF (cpS s x y z u v) (nP s) 5 = u ∧ pF (cpS s x y z u v) (nP s) 6 = (if y = nI 3 then z else nI 2) ∧ pF (cpS s x y z u v) (nP s) 8 = (if v = 0 then nI 0 else nI 1) := by
  have h12 := hR.1
  have h18 := hR.2
  obtain ⟨⟨hx, hr, hP, e1, hEE, e2, v0, v1, v2, p4, p7, p9, p01⟩, pf, p0, p1, p2, p3, p8, _⟩ := coS_NF (sort := nI 1) (x := y) (y := x) (z := m9) hW hR
  have o : ∀ k, k ≠ 10 + 10 * nP s + 5 → k ≠ 10 + 10 * nP s + 6 → k ≠ 10 + 10 * nP s + 8 → cpS s x y z u v k = coS s (nI 1) y x m9 k := fun k a b cc => by
    unfold cpS
    rw [rset_n cc, rset_n b, rset_n a]
  have op : ∀ q f, f < 10 → q ≠ nP s → pF (cpS s x y z u v) q f = pF (coS s (nI 1) y x m9) q f := fun q f hf hq => o _ (by omega) (by omega) (by omega)
  have on : ∀ f, f ≠ 5 → f ≠ 6 → f ≠ 8 → pF (cpS s x y z u v) (nP s) f = pF (coS s (nI 1) y x m9) (nP s) f := fun f a b cc => o _ (by omega) (by omega) (by omega)
  have oe : ∀ e f, eF (cpS s x y z u v) e f = eF (coS s (nI 1) y x m9) e f := fun e f => o _ (by omega) (by omega) (by omega)
  have oP : nP (cpS s x y z u v) = nP s + 1 := by unfold nP; rw [o 1 (by omega) (by omega) (by omega)]; exact hP
  have oE : nE (cpS s x y z u v) = nE s + 1 := by unfold nE; rw [o 2 (by omega) (by omega) (by omega)]; exact hEE
  refine ⟨⟨⟨by omega, by omega, fun q hq f h1 h2 h3 => by rw [op q f h2 (by omega)]; exact pf q f hq h2, fun e he f hf => by rw [oe]; exact hx.xee he hf, ?_⟩, ?_, oP, ?_, oE, ?_, by rw [oe]; exact v0, by rw [oe]; exact v1, by rw [oe]; exact v2, by rw [on 4 (by decide) (by decide) (by decide)]; exact p4, by rw [on 7 (by decide) (by decide) (by decide)]; exact p7, by rw [on 9 (by decide) (by decide) (by decide)]; exact p9, by rw [on 0 (by decide) (by decide) (by decide), on 1 (by decide) (by decide) (by decide)]; exact p01⟩, fun q f hq hf => by rw [op q f hf (by omega)]; exact pf q f hq hf, by rw [on 0 (by decide) (by decide) (by decide)]; exact p0, by rw [on 1 (by decide) (by decide) (by decide)]; exact p1, by rw [on 2 (by decide) (by decide) (by decide)]; exact p2, by rw [on 3 (by decide) (by decide) (by decide)]; exact p3, ?_, ?_, ?_⟩
  · exact ⟨by rw [o 6 (by omega) (by omega) (by omega)]; exact hx.2.2.2.2.1, fun k hk => by rw [o k (by omega) (by omega) (by omega)]; exact hx.2.2.2.2.2 k hk⟩
  · exact ⟨by rw [o 0 (by omega) (by omega) (by omega)]; exact hr.1, by rw [o 3 (by omega) (by omega) (by omega)]; exact hr.2.1, by rw [o 4 (by omega) (by omega) (by omega)]; exact hr.2.2.1, by rw [o 5 (by omega) (by omega) (by omega)]; exact hr.2.2.2.1, fun k h1 h2 => by rw [o k (by omega) (by omega) (by omega)]; exact hr.2.2.2.2 k h1 h2⟩
  · rw [o 1 (by omega) (by omega) (by omega)]; exact e1
  · rw [o 2 (by omega) (by omega) (by omega)]; exact e2
  · show cpS s x y z u v (10 + 10 * nP s + 5) = u
    unfold cpS
    rw [rset_n (by omega), rset_n (by omega), rset_e]
  · show cpS s x y z u v (10 + 10 * nP s + 6) = _
    unfold cpS
    rw [rset_n (by omega), rset_e]
  · show cpS s x y z u v (10 + 10 * nP s + 8) = _
    unfold cpS
    rw [rset_e]
theorem WF_copy (hW : WF s) (hR : okR s) (hk : okCp s (nI p) y z u) (hp : p < nP s) (ha : isAw s p) : WF (cpS s (nI p) y z u v) := by
  have h12 := hR.1
  obtain ⟨hN, pf, p0, p1, p2, p3, p5, p6, p8⟩ := cpS_NF (x := nI p) (y := y) (z := z) (u := u) (v := v) hW hR
  have v0 := hN.2.2.2.2.2.2.1
  obtain ⟨_, hy, hz, hu0, hu1⟩ := hk
  obtain ⟨dy, hdy, edy⟩ := hW.day
  obtain ⟨m, hm, rfl⟩ := nI_of hu0
  have hm2 : m ≤ dy := by
    rw [edy, n_lt (by omega) hm] at hu1
    omega
  refine WF_new hW hR hN (Or.inr (Or.inl rfl)) (Or.inr (Or.inl ⟨rfl, ?_, ⟨p, hp, p2, ha⟩, p3, ⟨m, by omega, p5⟩, ?_⟩)) ?_ (fun q hq => ?_) (fun q hq _ => noend v0 (by decide) (by decide)) (noend v0 (by decide) (by decide))
  · unfold isCp; rw [p1]; exact hy
  · rw [p6]
    by_cases h3 : y = nI 3
    · rw [if_pos h3]
      obtain ⟨a, b⟩ := hz h3
      have hz0 : ¬ z < 0 := fun hh => a (Int32.lt_trans hh (show (0 : Int32) < nI 1 by decide))
      obtain ⟨j, hj, rfl⟩ := nI_of hz0
      rw [n_lt hj (by decide)] at a
      rw [n_lt (by decide) hj] at b
      exact ⟨j, by omega, by omega, rfl⟩
    · rw [if_neg h3]
      exact ⟨2, by decide, by decide, rfl⟩
  · rw [p8]
    by_cases hv : v = 0
    · rw [if_pos hv]; exact Or.inl rfl
    · rw [if_neg hv]; exact Or.inr rfl
  · exact dyn_same hW hN.1 (by have := hN.2.2.1; omega) hN.2.2.2.2.1 hq (pf q 0 hq (by decide)) (pf q 7 hq (by decide)) (noend v0 (by decide) (by decide)) (fun h => absurd (v0.symm.trans h.1) (by decide))
/-- the joined one's row -/
theorem joS_NF (hW : WF s) (hR : okR s) (hp : p < nP s) (hq : q < nP s) (hpq : p ≠ q) : NF s (joS s p q) (nI 3) ∧ (∀ r f, r < nP s → f < 10 → r ≠ p → r ≠ q → pF (joS s p q) r f = pF s r f) ∧ pF (joS s p q) p 0 = nI 6 ∧ pF (joS s p q) q 0 = nI 6 ∧ pF (joS s p q) p 7 = nI (nP s) ∧ pF (joS s p q) q 7 = nI (nP s) ∧ pF (joS s p q) (nP s) 0 = nI 4 ∧ pF (joS s p q) (nP s) 1 = nI 4 ∧ pF (joS s p q) (nP s) 2 = nI p ∧ pF (joS s p q) (nP s) 3 = nI q ∧ pF (joS s p q) (nP s) 8 = nI 1 := by
  have h12 := hR.1
  have h18 := hR.2
  obtain ⟨⟨hx, hr, hP, e1, hEE, e2, v0, v1, v2, p4, p7, p9, p01⟩, pf, p0, p1, p2, p3, p8, _⟩ := coS_NF (sort := nI 3) (x := nI 4) (y := nI p) (z := nI q) hW hR
  have o : ∀ k, k ≠ 10 + 10 * p → k ≠ 10 + 10 * q → k ≠ 10 + 10 * p + 7 → k ≠ 10 + 10 * q + 7 → joS s p q k = coS s (nI 3) (nI 4) (nI p) (nI q) k := fun k a b cc dd => by
    unfold joS
    rw [rset_n dd, rset_n cc, rset_n b, rset_n a]
  have op : ∀ r f, f < 10 → (f ≠ 0 ∧ f ≠ 7 ∨ r ≠ p ∧ r ≠ q) → pF (joS s p q) r f = pF (coS s (nI 3) (nI 4) (nI p) (nI q)) r f := fun r f hf hh => o _ (by omega) (by omega) (by omega) (by omega)
  have oe : ∀ e f, eF (joS s p q) e f = eF (coS s (nI 3) (nI 4) (nI p) (nI q)) e f := fun e f => o _ (by omega) (by omega) (by omega) (by omega)
  have oP : nP (joS s p q) = nP s + 1 := by unfold nP; rw [o 1 (by omega) (by omega) (by omega) (by omega)]; exact hP
  have oE : nE (joS s p q) = nE s + 1 := by unfold nE; rw [o 2 (by omega) (by omega) (by omega) (by omega)]; exact hEE
  have on : ∀ f, f < 10 → pF (joS s p q) (nP s) f = pF (coS s (nI 3) (nI 4) (nI p) (nI q)) (nP s) f := fun f hf => op _ f hf (Or.inr ⟨by omega, by omega⟩)
  refine ⟨⟨⟨by omega, by omega, fun r hr' f h1 h2 h3 => by rw [op r f h2 (Or.inl ⟨by omega, h3⟩)]; exact pf r f hr' h2, fun e he f hf => by rw [oe]; exact hx.xee he hf, ?_⟩, ?_, oP, ?_, oE, ?_, by rw [oe]; exact v0, by rw [oe]; exact v1, by rw [oe]; exact v2, by rw [on 4 (by decide)]; exact p4, by rw [on 7 (by decide)]; exact p7, by rw [on 9 (by decide)]; exact p9, by rw [on 0 (by decide), on 1 (by decide)]; exact p01⟩, fun r f hr' hf a b => by rw [op r f hf (Or.inr ⟨a, b⟩)]; exact pf r f hr' hf, ?_, ?_, ?_, ?_, by rw [on 0 (by decide)]; exact p0, by rw [on 1 (by decide)]; exact p1, by rw [on 2 (by decide)]; exact p2, by rw [on 3 (by decide)]; exact p3, by rw [on 8 (by decide)]; exact p8⟩
  · exact ⟨by rw [o 6 (by omega) (by omega) (by omega) (by omega)]; exact hx.2.2.2.2.1, fun k hk => by rw [o k (by omega) (by omega) (by omega) (by omega)]; exact hx.2.2.2.2.2 k hk⟩
  · exact ⟨by rw [o 0 (by omega) (by omega) (by omega) (by omega)]; exact hr.1, by rw [o 3 (by omega) (by omega) (by omega) (by omega)]; exact hr.2.1, by rw [o 4 (by omega) (by omega) (by omega) (by omega)]; exact hr.2.2.1, by rw [o 5 (by omega) (by omega) (by omega) (by omega)]; exact hr.2.2.2.1, fun k h1 h2 => by rw [o k (by omega) (by omega) (by omega) (by omega)]; exact hr.2.2.2.2 k h1 h2⟩
  · rw [o 1 (by omega) (by omega) (by omega) (by omega)]; exact e1
  · rw [o 2 (by omega) (by omega) (by omega) (by omega)]; exact e2
  · show joS s p q (10 + 10 * p + 0) = _
    unfold joS
    rw [rset_n (by omega), rset_n (by omega), rset_n (by omega)]
    exact rset_e
  · show joS s p q (10 + 10 * q + 0) = _
    unfold joS
    rw [rset_n (by omega), rset_n (by omega)]
    exact rset_e
  · show joS s p q (10 + 10 * p + 7) = _
    unfold joS
    rw [rset_n (by omega), rset_e]
  · show joS s p q (10 + 10 * q + 7) = _
    unfold joS
    rw [rset_e]
theorem WF_join (hW : WF s) (hR : okR s) (hp : p < nP s) (hq : q < nP s) (hpq : p ≠ q) (ha : isAw s p) (hb : isAw s q) : WF (joS s p q) := by
  have h12 := hR.1
  have h18 := hR.2
  obtain ⟨hN, pf, k0p, k0q, k7p, k7q, n0, n1, n2, n3, n8⟩ := joS_NF (p := p) (q := q) hW hR hp hq hpq
  have hP := hN.2.2.1
  have hE := hN.2.2.2.2.1
  have v0 := hN.2.2.2.2.2.2.1
  have v1 := hN.2.2.2.2.2.2.2.1
  have hend : ∀ r, r ≤ nP s → (endAt (joS s p q) r (nE s) ↔ r = p ∨ r = q) := fun r hr => by
    refine ⟨fun h => ?_, fun h => ?_⟩
    · rcases h with ⟨h, _⟩ | ⟨_, x, hx, h1, h2⟩
      · exact absurd (v0.symm.trans h) (by decide)
      · have : x = nP s := (nI_eq (by omega) (by omega)).mp (h1.symm.trans v1)
        subst this
        rw [n2, n3] at h2
        rcases h2 with h2 | h2
        · exact Or.inl ((nI_eq (by omega) (by omega)).mp h2).symm
        · exact Or.inr ((nI_eq (by omega) (by omega)).mp h2).symm
    · refine Or.inr ⟨v0, nP s, by omega, v1, ?_⟩
      rw [n2, n3]
      rcases h with rfl | rfl
      · exact Or.inl rfl
      · exact Or.inr rfl
  have na : ∀ r, isAw s r → ¬ pF s r 0 = nI 6 := fun r h h6 => by
    have := h.2
    rw [h6] at this
    exact this (by decide)
  refine WF_new hW hR hN (Or.inr (Or.inr rfl)) (Or.inr (Or.inr ⟨rfl, n1, p, q, hp, hq, hpq, n2, n3⟩)) (Or.inr n8) (fun r hr => ?_) (fun r hr h6 h => ?_) (fun h => ?_)
  · by_cases rp : r = p
    · subst rp
      exact dyn_end hE k0p (Or.inr ⟨nP s, by omega, by omega, k7p⟩) ((hend r (by omega)).mpr (Or.inl rfl))
    · by_cases rq : r = q
      · subst rq
        exact dyn_end hE k0q (Or.inr ⟨nP s, by omega, by omega, k7q⟩) ((hend r (by omega)).mpr (Or.inr rfl))
      · exact dyn_same hW hN.1 (by omega) hE hr (pf r 0 hr (by decide) rp rq) (pf r 7 hr (by decide) rp rq) (fun h => by
          rcases (hend r (by omega)).mp h with h | h
          · exact rp h
          · exact rq h) (fun h => absurd (v0.symm.trans h.1) (by decide))
  · rcases (hend r (by omega)).mp h with h | h
    · subst h; exact na _ ha h6
    · subst h; exact na _ hb h6
  · rcases (hend (nP s) (Nat.le_refl _)).mp h with h | h <;> omega
end F7s
