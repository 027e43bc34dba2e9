/-! ===== what always holds, goes on holding: wake, a new person, join ===== -/
section F6s
variable {s s' : Rw} {p q e c d k n : Nat} {x y z u v sort : Int32}
theorem WF_wake (hW : WF s) (hp : p < nP s) (h5 : pF s p 0 = nI 5) (hE : nE s < 18) : WF (wkS s p) := by
  have h12 := hW.nP.1
  have h18 := hW.nE.1
  obtain ⟨hx, hr, hP, hEE, e1, e2, pf, k0, v0, v1, v2⟩ := kev_Ext (y := nI 2) (sort := nI 2) (x := nI p) hW hp hE
  show WF (evS (rset s (10 + 10 * p) (nI 2)) (nI 2) (nI p))
  generalize evS (rset s (10 + 10 * p) (nI 2)) (nI 2) (nI p) = s' at *
  obtain ⟨da, db, dc, dd⟩ := wfP_d (hW.per hp)
  have t5 : pF s p 1 = nI 5 := by
    rcases da with h | ⟨h, h'⟩ | ⟨h, _⟩ | ⟨_, h⟩
    · rw [h5] at h; exact absurd h (by decide)
    · exact absurd (h.symm.trans h5) h'
    · exact h
    · rw [h5] at h; exact absurd h (by decide)
  have noend : ∀ q, ¬ endAt s' q (nE s) := fun q h => by
    rcases h with ⟨h, _⟩ | ⟨h, _⟩ <;> exact absurd (h.symm.trans v0) (by decide)
  have n6 : ¬ pF s p 0 = nI 6 := by rw [h5]; decide
  have now : ∀ e, e < nE s → ¬ (eF s e 0 = nI 2 ∧ eF s e 1 = nI p) := by
    rcases dd t5 with ⟨_, h⟩ | ⟨h, _⟩
    · exact h
    · exact absurd h5 h
  have k1 : pF s' p 1 = nI 5 := by rw [pf p 1 (by omega) (by decide) (by omega)]; exact t5
  have k7 : pF s' p 7 = m9 := by
    rw [pf p 7 (by omega) (by decide) (by omega)]
    rcases db with h | ⟨h, _⟩
    · exact h
    · exact absurd h n6
  refine WF_ev hW hx hr ⟨by rw [hP]; exact h12, ?_⟩ ⟨hEE, by omega, by rw [hEE]; exact e2⟩ (fun q h1 h2 => by omega) (fun q hq => ?_) ?_ (fun q e hq he h => ⟨noend q, fun hh => ?_⟩) (fun e q he a b h hh => ?_)
  · rw [hP]
    exact e1.trans hW.nP.2
  · have hq : q < nP s := by rw [hP] at hq; exact hq
    by_cases hqp : q = p
    · subst hqp
      refine ⟨Or.inr (Or.inr (Or.inr ⟨k1, k0⟩)), Or.inl k7, ?_, fun _ => Or.inr ⟨by rw [k0]; decide, fun _ => ⟨nE s, by omega, v0, v1⟩⟩⟩
      refine ⟨fun h => absurd h (by rw [k0]; decide), fun ⟨e, he, h⟩ => ?_⟩
      by_cases hh : e < nE s
      · exact absurd (ended6 hW hq hh ((hx.xen hW (by rw [hP]; exact h12) hh).mp h)) n6
      · have : e = nE s := by omega
        subst this; exact absurd h (noend q)
    · exact dyn_same hW hx (by rw [hP]; exact h12) hEE hq (pf q 0 (by omega) (by decide) (by omega)) (pf q 7 (by omega) (by decide) (by omega)) (noend q) (fun h => hqp ((nI_eq (by omega) (by omega)).mp (h.2.symm.trans v1)))
  · obtain ⟨dd, hd, ed⟩ := hW.day
    have hb := hx.xbb hp
    refine ⟨⟨p, by rw [hP]; exact hp, v1, ?_, Or.inr (Or.inr (Or.inl ⟨v0, ?_, k1⟩))⟩, dd, hd, v2.trans ed⟩
    · rw [hb]; have := (hW.cb hp).2.1; omega
    · rw [hb]; exact (hW.cb hp).2.1
  · have : q = p := (nI_eq (by omega) (by omega)).mp (hh.symm.trans v1)
    subst this
    exact n6 (ended6 hW hq he h)
  · have hqn : nI q = nI p := hh.symm.trans v1
    rw [hqn] at b
    exact now e he ⟨a, b⟩
/-- a person and the event that brings him -/
def NF (s s' : Rw) (sort : Int32) : Prop := Ext s s' ∧ sameR s s' ∧ nP s' = nP s + 1 ∧ s' 1 = nI (nP s + 1) ∧ nE s' = nE s + 1 ∧ s' 2 = nI (nE s + 1) ∧ eF s' (nE s) 0 = sort ∧ eF s' (nE s) 1 = nI (nP s) ∧ eF s' (nE s) 2 = s 0 ∧ pF s' (nP s) 4 = s 0 ∧ pF s' (nP s) 7 = m9 ∧ pF s' (nP s) 9 = nI (nE s) ∧ pF s' (nP s) 0 = pF s' (nP s) 1
theorem WF_new (hW : WF s) (hR : okR s) (hN : NF s s' sort) (hs : sort = nI 0 ∨ sort = nI 1 ∨ sort = nI 3)
    (ht : (sort = nI 0 ∧ pF s' (nP s) 1 = nI 1 ∧ pF s' (nP s) 2 = m9 ∧ pF s' (nP s) 3 = m9) ∨
      (sort = nI 1 ∧ isCp s' (nP s) ∧ (∃ q, q < nP s ∧ pF s' (nP s) 2 = nI q ∧ isAw s q) ∧ pF s' (nP s) 3 = m9 ∧ (∃ m, m ≤ 999 ∧ pF s' (nP s) 5 = nI m) ∧ (∃ m, 1 ≤ m ∧ m ≤ 3 ∧ pF s' (nP s) 6 = nI m)) ∨
      (sort = nI 3 ∧ pF s' (nP s) 1 = nI 4 ∧ ∃ q r, q < nP s ∧ r < nP s ∧ q ≠ r ∧ pF s' (nP s) 2 = nI q ∧ pF s' (nP s) 3 = nI r))
    (h8 : pF s' (nP s) 8 = nI 0 ∨ pF s' (nP s) 8 = nI 1)
    (hd : ∀ q, q < nP s → wfPd s' q) (hu : ∀ q, q < nP s → pF s q 0 = nI 6 → ¬ endAt s' q (nE s)) (hn' : ¬ endAt s' (nP s) (nE s)) : WF s' := by
  obtain ⟨hx, hr, hP, e1, hEE, e2, v0, v1, v2, p4, p7, p9, p0⟩ := hN
  have h12 := hR.1
  have h18 := hR.2
  have hb : byE s' (nP s) = nE s := by unfold byE; rw [p9, nI_clamp (by omega)]
  obtain ⟨dy, hdy, edy⟩ := hW.day
  have n2 : ¬ sort = nI 2 := by rcases hs with h | h | h <;> rw [h] <;> decide
  -- an awake one has come, and woken if he slept
  have aw : ∀ q, q < nP s → isAw s q → byE s' q < nE s ∧ (pF s' q 1 = nI 5 → ∃ e, e < nE s ∧ eF s' e 0 = nI 2 ∧ eF s' e 1 = nI q) := fun q hq ha => by
    refine ⟨by rw [hx.xbb hq]; exact (hW.cb hq).2.1, fun h5 => ?_⟩
    rw [hx.xpp hq (by decide) (by decide) (by decide)] at h5
    obtain ⟨da, _, _, dd⟩ := wfP_d (hW.per hq)
    have k2 : pF s q 0 = nI 2 := by
      rcases da with h | ⟨h, h'⟩ | ⟨_, h⟩ | ⟨_, h⟩
      · exfalso
        have := ha.2
        rw [h] at this
        exact this (by decide)
      · exact absurd h5 h'
      · exfalso
        have := ha.2
        rw [h] at this
        exact this (by decide)
      · exact h
    rcases dd h5 with ⟨h, _⟩ | ⟨_, h⟩
    · rw [k2] at h; exact absurd h (by decide)
    · obtain ⟨e, a, b, cc⟩ := h k2
      exact ⟨e, a, by rw [hx.xee a (by decide)]; exact b, by rw [hx.xee a (by decide)]; exact cc⟩
  refine WF_ev hW hx hr ⟨by omega, by rw [hP]; exact e1⟩ ⟨hEE, by omega, by rw [hEE]; exact e2⟩ (fun q h1 h2 => ?_) (fun q hq => ?_) ?_ (fun q e hq he h => ⟨fun hh => hu q hq (ended6 hW hq he h) hh, fun hh => ?_⟩) (fun e q he a b h => absurd (v0.symm.trans h) n2)
  · have : q = nP s := by omega
    subst this
    refine ⟨?_, ⟨dy, hdy, p4.trans edy⟩, h8, by rw [hb]; exact p9, by rw [hb]; omega, by rw [hb]; exact v1, by rw [hb]; exact v2.trans p4.symm⟩
    rw [hb]
    rcases ht with ⟨a, b, cc, dd⟩ | ⟨a, b, ⟨q, hq, e2', ha⟩, cc, dd, ee⟩ | ⟨a, b, q, r, hq, hr', hqr, e2', e3⟩
    · exact Or.inl ⟨b, cc, dd, v0.trans a⟩
    · exact Or.inr (Or.inl ⟨b, ⟨q, hq, e2', (aw q hq ha).1, (aw q hq ha).2⟩, cc, dd, ee, v0.trans a⟩)
    · exact Or.inr (Or.inr ⟨b, ⟨q, r, hq, hr', hqr, e2', e3, by rw [hx.xbb hq]; exact (hW.cb hq).2.1, by rw [hx.xbb hr']; exact (hW.cb hr').2.1⟩, v0.trans a⟩)
  · by_cases hq2 : q < nP s
    · exact hd q hq2
    · have : q = nP s := by omega
      subst this
      have nold : ∀ e, e < nE s → ¬ endAt s' (nP s) e := fun e he h => by
        have := endAt_lt hW he (by omega) ((hx.xen hW (by omega) he).mp h)
        omega
      have n6 : ¬ pF s' (nP s) 0 = nI 6 := by
        rw [p0]
        rcases ht with ⟨_, b, _⟩ | ⟨_, b, _⟩ | ⟨_, b, _⟩
        · rw [b]; decide
        · rcases b with b | b | b <;> rw [b] <;> decide
        · rw [b]; decide
      refine ⟨?_, Or.inl p7, ⟨fun h => absurd h n6, fun ⟨e, he, h⟩ => ?_⟩, fun h5 => Or.inl ⟨p0.trans h5, fun e he hh => ?_⟩⟩
      · by_cases h5 : pF s' (nP s) 1 = nI 5
        · exact Or.inr (Or.inr (Or.inl ⟨h5, p0.trans h5⟩))
        · exact Or.inr (Or.inl ⟨p0, h5⟩)
      · by_cases hh : e < nE s
        · exact absurd h (nold e hh)
        · have : e = nE s := by omega
          subst this; exact absurd h hn'
      · by_cases h : e < nE s
        · rw [hx.xee h (by decide), hx.xee h (by decide)] at hh
          obtain ⟨p, hp, e1', _⟩ := WFev hW h
          have : p = nP s := (nI_eq (by omega) (by omega)).mp (e1'.symm.trans hh.2)
          omega
        · have : e = nE s := by omega
          subst this
          exact n2 (v0.symm.trans hh.1)
  · refine ⟨⟨nP s, by omega, v1, by omega, ?_⟩, dy, hdy, v2.trans edy⟩
    rcases ht with ⟨a, b, _⟩ | ⟨a, b, _⟩ | ⟨a, b, _⟩
    · exact Or.inl ⟨v0.trans a, hb⟩
    · exact Or.inr (Or.inl ⟨v0.trans a, hb⟩)
    · exact Or.inr (Or.inr (Or.inr (Or.inl ⟨v0.trans a, hb, b⟩)))
  · have : q = nP s := (nI_eq (by omega) (by omega)).mp (hh.symm.trans v1)
    omega
/-- the row with a new person in it -/
theorem coS_NF (hW : WF s) (hR : okR s) : NF s (coS s sort x y z) sort ∧ (∀ q f, q < nP s → f < 10 → pF (coS s sort x y z) q f = pF s q f) ∧ pF (coS s sort x y z) (nP s) 0 = x ∧ pF (coS s sort x y z) (nP s) 1 = x ∧ pF (coS s sort x y z) (nP s) 2 = y ∧ pF (coS s sort x y z) (nP s) 3 = z ∧ pF (coS s sort x y z) (nP s) 8 = nI 1 ∧ ∀ k, 10 + 10 * nP s ≤ k → k < 20 + 10 * nP s → True := by
  have h12 := hR.1
  have h18 := hR.2
  have hn : nE (rset (peS s (nP s) x y z (nI (nE s))) 1 (nI (nP s + 1))) = nE s := by
    unfold nE peS
    repeat rw [rset_n (by omega)]
  have n2 := evS_n (t := rset (peS s (nP s) x y z (nI (nE s))) 1 (nI (nP s + 1))) (sort := sort) (x := nI (nP s)) (by rw [hn]; exact h18)
  have w0 := evS_0 (t := rset (peS s (nP s) x y z (nI (nE s))) 1 (nI (nP s + 1))) (sort := sort) (x := nI (nP s))
  have w1 := evS_1 (t := rset (peS s (nP s) x y z (nI (nE s))) 1 (nI (nP s + 1))) (sort := sort) (x := nI (nP s))
  have w2 := evS_2 (t := rset (peS s (nP s) x y z (nI (nE s))) 1 (nI (nP s + 1))) (sort := sort) (x := nI (nP s))
  rw [hn] at n2 w0 w1 w2
  have c0 : coS s sort x y z = evS (rset (peS s (nP s) x y z (nI (nE s))) 1 (nI (nP s + 1))) sort (nI (nP s)) := rfl
  rw [← c0] at n2 w0 w1 w2
  have o1 : ∀ k, k ≠ 2 → (k < 130 + 3 * nE s ∨ 130 + 3 * nE s + 2 < k) → coS s sort x y z k = rset (peS s (nP s) x y z (nI (nE s))) 1 (nI (nP s + 1)) k := fun k a b => by
    rw [c0, evS_o a (by rw [hn]; exact b)]
  have o2 : ∀ k, k ≠ 2 → k ≠ 1 → (k < 10 + 10 * nP s ∨ 10 + 10 * nP s + 9 < k) → (k < 130 + 3 * nE s ∨ 130 + 3 * nE s + 2 < k) → coS s sort x y z k = s k := fun k a b cc dd => by
    rw [o1 k a dd, rset_n b]
    unfold peS
    repeat rw [rset_n (by omega)]
  have e1 : coS s sort x y z 1 = nI (nP s + 1) := by rw [o1 1 (by decide) (by omega)]; exact rset_e
  have hP : nP (coS s sort x y z) = nP s + 1 := by
    show (coS s sort x y z 1).toNatClampNeg = _
    rw [e1, nI_clamp (by omega)]
  have pf : ∀ q f, q < nP s → f < 10 → pF (coS s sort x y z) q f = pF s q f := fun q f hq hf => o2 _ (by omega) (by omega) (by omega) (by omega)
  have pn : ∀ f, f < 10 → pF (coS s sort x y z) (nP s) f = peS s (nP s) x y z (nI (nE s)) (10 + 10 * nP s + f) := fun f hf => by
    show coS s sort x y z (10 + 10 * nP s + f) = _
    rw [o1 _ (by omega) (by omega), rset_n (by omega)]
  have g : ∀ f, f < 10 → peS s (nP s) x y z (nI (nE s)) (10 + 10 * nP s + f) = (if f = 0 then x else if f = 1 then x else if f = 2 then y else if f = 3 then z else if f = 4 then s 0 else if f = 8 then nI 1 else if f = 9 then nI (nE s) else m9) := fun f hf => by
    unfold peS rset
    rcases (show f = 0 ∨ f = 1 ∨ f = 2 ∨ f = 3 ∨ f = 4 ∨ f = 5 ∨ f = 6 ∨ f = 7 ∨ f = 8 ∨ f = 9 by omega) with rfl | rfl | rfl | rfl | rfl | rfl | rfl | rfl | rfl | rfl <;> simp
  refine ⟨⟨⟨by omega, by omega, fun q hq f h1 h2 h3 => pf q f hq h2, fun e he f hf => o2 _ (by omega) (by omega) (by omega) (by omega), o2 6 (by decide) (by decide) (by omega) (by omega), fun k hk => o2 k (by omega) (by omega) (by omega) (by omega)⟩, ⟨o2 0 (by decide) (by decide) (by omega) (by omega), o2 3 (by decide) (by decide) (by omega) (by omega), o2 4 (by decide) (by decide) (by omega) (by omega), o2 5 (by decide) (by decide) (by omega) (by omega), fun k h1 h2 => o2 k (by omega) (by omega) (by omega) (by omega)⟩, hP, e1, n2.2, n2.1, w0, w1, ?_, ?_, ?_, ?_, ?_⟩, pf, ?_, ?_, ?_, ?_, ?_, fun _ _ _ => trivial⟩
  · rw [w2, rset_n (by decide)]
    unfold peS
    repeat rw [rset_n (by omega)]
  · rw [pn 4 (by decide), g 4 (by decide)]; rfl
  · rw [pn 7 (by decide), g 7 (by decide)]; rfl
  · rw [pn 9 (by decide), g 9 (by decide)]; rfl
  · rw [pn 0 (by decide), pn 1 (by decide), g 0 (by decide), g 1 (by decide)]; rfl
  · rw [pn 0 (by decide), g 0 (by decide)]; rfl
  · rw [pn 1 (by decide), g 1 (by decide)]; rfl
  · rw [pn 2 (by decide), g 2 (by decide)]; rfl
  · rw [pn 3 (by decide), g 3 (by decide)]; rfl
  · rw [pn 8 (by decide), g 8 (by decide)]; rfl
end F6s
