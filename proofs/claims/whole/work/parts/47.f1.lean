/-! ===== a step that writes an event: what goes on holding ===== -/
/-- of a person, what never changes -/
def wfPs (s : Rw) (p : Nat) : Prop :=
  ((pF s p 1 = nI 1 ∧ pF s p 2 = m9 ∧ pF s p 3 = m9 ∧ eF s (byE s p) 0 = nI 0) ∨
    (isCp s p ∧ (∃ q, q < p ∧ pF s p 2 = nI q ∧ byE s q < byE s p ∧ (pF s q 1 = nI 5 → ∃ e, e < byE s p ∧ eF s e 0 = nI 2 ∧ eF s e 1 = nI q)) ∧ pF s p 3 = m9 ∧ (∃ m, m ≤ 999 ∧ pF s p 5 = nI m) ∧ (∃ m, 1 ≤ m ∧ m ≤ 3 ∧ pF s p 6 = nI m) ∧ eF s (byE s p) 0 = nI 1) ∨
    (pF s p 1 = nI 4 ∧ (∃ q r, q < p ∧ r < p ∧ q ≠ r ∧ pF s p 2 = nI q ∧ pF s p 3 = nI r ∧ byE s q < byE s p ∧ byE s r < byE s p) ∧ eF s (byE s p) 0 = nI 3)) ∧
  (∃ c, c ≤ 999 ∧ pF s p 4 = nI c) ∧ (pF s p 8 = nI 0 ∨ pF s p 8 = nI 1) ∧
  (pF s p 9 = nI (byE s p) ∧ byE s p < nE s ∧ eF s (byE s p) 1 = nI p ∧ eF s (byE s p) 2 = pF s p 4)
/-- what does -/
def wfPd (s : Rw) (p : Nat) : Prop :=
  (pF s p 0 = nI 6 ∨ (pF s p 0 = pF s p 1 ∧ ¬ pF s p 1 = nI 5) ∨ (pF s p 1 = nI 5 ∧ pF s p 0 = nI 5) ∨ (pF s p 1 = nI 5 ∧ pF s p 0 = nI 2)) ∧
  ((pF s p 7 = m9) ∨ (pF s p 0 = nI 6 ∧ ∃ j, p < j ∧ j < nP s ∧ pF s p 7 = nI j)) ∧
  (pF s p 0 = nI 6 ↔ ∃ e, e < nE s ∧ endAt s p e) ∧
  (pF s p 1 = nI 5 → (pF s p 0 = nI 5 ∧ ∀ e, e < nE s → ¬ (eF s e 0 = nI 2 ∧ eF s e 1 = nI p)) ∨ (¬ pF s p 0 = nI 5 ∧ (pF s p 0 = nI 2 → ∃ e, e < nE s ∧ eF s e 0 = nI 2 ∧ eF s e 1 = nI p)))
theorem wfP_i {s : Rw} {p : Nat} (h1 : wfPs s p) (h2 : wfPd s p) : wfP s p := ⟨h1.1, h2.1, h2.2.1, h1.2.1, h1.2.2.1, h1.2.2.2, h2.2.2.1, h2.2.2.2⟩
theorem wfP_s {s : Rw} {p : Nat} (h : wfP s p) : wfPs s p := ⟨h.1, h.2.2.2.1, h.2.2.2.2.1, h.2.2.2.2.2.1⟩
theorem wfP_d {s : Rw} {p : Nat} (h : wfP s p) : wfPd s p := ⟨h.2.1, h.2.2.1, h.2.2.2.2.2.2.1, h.2.2.2.2.2.2.2⟩
/-! the law's rows alike -/
abbrev sameL (s s' : Rw) : Prop := s' 6 = s 6 ∧ ∀ k, 296 ≤ k → s' k = s k
section F1s
variable {s s' f : Rw} {p q e c n k d w : Nat} {I I' : mI}
theorem sL_n (h : sameL s s') : nL s' = nL s := by unfold nL; rw [h.1]
theorem sL_f (h : sameL s s') : lF s' c k = lF s c k := h.2 _ (by omega)
theorem sL_m (h : sameL s s') {l : List Int32} : mst s' f k l = mst s f k l := by unfold mst; rw [h.2 (346 + k) (by omega)]
theorem sL_r (h : sameL s s') : ∀ (n k : Nat) (l : List Int32), mrun s' f n k l = mrun s f n k l
  | 0, _, _ => rfl
  | n + 1, k, l => by
    show mrun s' f n (k + 1) (mst s' f k l) = mrun s f n (k + 1) (mst s f k l)
    rw [sL_m h, sL_r h n]
theorem sL_h (h : sameL s s') : hld s' c f = hld s c f := by unfold hld; rw [sL_f h, sL_f h, sL_f h, sL_r h]
theorem sL_v (h : sameL s s') {key : Int32} : lawV s' key f = lawV s key f := by
  unfold lawV
  rw [sL_n h]
  have lp : ∀ c, lawU s' key f c = lawU s key f c := by
    intro c
    induction c with
    | zero => rfl
    | succ c ih => rw [lawU_s, lawU_s, sL_f h, sL_f h, sL_h h, ih]
  exact lp _
theorem sL_k (h : sameL s s') : ∀ (n k d : Nat), wfk s n k d → wfk s' n k d
  | 0, _, _, hh => hh
  | n + 1, k, d, hh => by
    have e := h.2 (346 + k) (by omega)
    rcases hh with ⟨h1, h2, h3, h4⟩ | ⟨h1, h2, h3⟩ | ⟨h1, h2, h3, h4⟩
    · exact Or.inl ⟨by rw [e]; exact h1, by rw [e]; exact h2, h3, sL_k h n _ _ h4⟩
    · exact Or.inr (Or.inl ⟨by rw [e]; exact h1, h2, sL_k h n _ _ h3⟩)
    · exact Or.inr (Or.inr ⟨by rw [e]; exact h1, h2, h3, sL_k h n _ _ h4⟩)
theorem sL_w (h : sameL s s') (hw : wfL s c) : wfL s' c := by
  obtain ⟨⟨a, b, h1, h2, h3, h4, h5⟩, h6⟩ := hw
  refine ⟨⟨a, b, h1, h2, by rw [sL_f h]; exact h3, by rw [sL_f h]; exact h4, ?_⟩, ?_⟩
  · rw [sL_f h]
    rcases h5 with h5 | h5
    · exact Or.inl h5
    · exact Or.inr ⟨h5.1, sL_k h _ _ _ h5.2⟩
  · rw [sL_f h, sL_f h]; exact h6
theorem sL_R {l : Nat} (h : sameL s s') (hR : RepL I l s) : RepL I l s' := by
  obtain ⟨h1, t, h2, h3⟩ := hR
  refine ⟨h1.trans h.1.symm, t, fun i hi => h2 i (by rw [sL_n h] at hi; exact hi), fun i hi => ?_⟩
  obtain ⟨a, b, cc, dd, ee⟩ := h3 i (by rw [sL_n h] at hi; exact hi)
  exact ⟨a, by rw [sL_f h]; exact b, by rw [sL_f h]; exact cc, dd, fun f => by rw [sL_h h]; exact ee f⟩
/-- persons and events of before as they were, but for kind and whom one went into -/
def Ext (s s' : Rw) : Prop := nP s ≤ nP s' ∧ nE s ≤ nE s' ∧ (∀ p, p < nP s → ∀ f, 1 ≤ f → f < 10 → f ≠ 7 → pF s' p f = pF s p f) ∧ (∀ e, e < nE s → ∀ f, f < 3 → eF s' e f = eF s e f) ∧ sameL s s'
theorem Ext.xpp (h : Ext s s') (hp : p < nP s) {f : Nat} (h1 : 1 ≤ f) (h2 : f < 10) (h3 : f ≠ 7) : pF s' p f = pF s p f := h.2.2.1 p hp f h1 h2 h3
theorem Ext.xee (h : Ext s s') (he : e < nE s) {f : Nat} (h1 : f < 3) : eF s' e f = eF s e f := h.2.2.2.1 e he f h1
theorem Ext.xbb (h : Ext s s') (hp : p < nP s) : byE s' p = byE s p := by unfold byE; rw [h.xpp hp (by decide) (by decide) (by decide)]
theorem Ext.xcc (h : Ext s s') (hp : p < nP s) : isCp s' p ↔ isCp s p := by unfold isCp; rw [h.xpp hp (by decide) (by decide) (by decide)]
theorem Ext.xen (h : Ext s s') (hW : WF s) (h12 : nP s' ≤ 12) (he : e < nE s) : endAt s' q e ↔ endAt s q e := by
  obtain ⟨p, hp, e1, _⟩ := WFev hW he
  unfold endAt
  rw [h.xee he (by decide), h.xee he (by decide)]
  refine ⟨fun hh => hh.imp id fun ⟨h3, p', hp', e1', e2⟩ => ?_, fun hh => hh.imp id fun ⟨h3, p', hp', e1', e2⟩ => ?_⟩
  · have h12b := hW.nP.1
    have : p' = p := (nI_eq (by omega) (by omega)).mp (e1'.symm.trans e1)
    subst this
    refine ⟨h3, p', hp, e1', ?_⟩
    rw [h.xpp hp (by decide) (by decide) (by decide), h.xpp hp (by decide) (by decide) (by decide)] at e2
    exact e2
  · refine ⟨h3, p', Nat.lt_of_lt_of_le hp' h.1, e1', ?_⟩
    rw [h.xpp hp' (by decide) (by decide) (by decide), h.xpp hp' (by decide) (by decide) (by decide)]
    exact e2
theorem Ext.xps (h : Ext s s') (hW : WF s) (hp : p < nP s) : wfPs s' p := by
  have h12 := hW.nP.1
  obtain ⟨h1, h2, h3, h4, h5, h6, h7⟩ := wfP_s (hW.per hp)
  have pe : ∀ f, 1 ≤ f → f < 10 → f ≠ 7 → pF s' p f = pF s p f := fun f a b c => h.xpp hp a b c
  have hb := h.xbb hp
  refine ⟨?_, by rw [pe 4 (by decide) (by decide) (by decide)]; exact h2, by rw [pe 8 (by decide) (by decide) (by decide)]; exact h3, ?_⟩
  · rw [pe 1 (by decide) (by decide) (by decide), pe 2 (by decide) (by decide) (by decide), pe 3 (by decide) (by decide) (by decide), hb, h.xee h5 (by decide), pe 5 (by decide) (by decide) (by decide), pe 6 (by decide) (by decide) (by decide), h.xcc hp]
    rcases h1 with h1 | ⟨a1, ⟨q, hq, a2, a3, a4⟩, a5⟩ | ⟨a1, ⟨q, r, hq, hr, hn, a2, a3, a4, a5⟩, a6⟩
    · exact Or.inl h1
    · refine Or.inr (Or.inl ⟨a1, ⟨q, hq, a2, by rw [h.xbb (by omega)]; exact a3, fun h5' => ?_⟩, a5⟩)
      rw [h.xpp (show q < nP s by omega) (by decide) (by decide) (by decide)] at h5'
      obtain ⟨e, b1, b2', b3⟩ := a4 h5'
      exact ⟨e, b1, by rw [h.xee (by omega) (by decide)]; exact b2', by rw [h.xee (by omega) (by decide)]; exact b3⟩
    · exact Or.inr (Or.inr ⟨a1, ⟨q, r, hq, hr, hn, a2, a3, by rw [h.xbb (by omega)]; exact a4, by rw [h.xbb (by omega)]; exact a5⟩, a6⟩)
  · rw [pe 9 (by decide) (by decide) (by decide), hb, h.xee h5 (by decide), h.xee h5 (by decide), pe 4 (by decide) (by decide) (by decide)]
    exact ⟨h4, Nat.lt_of_lt_of_le h5 h.2.1, h6, h7⟩
theorem Ext.xvd (h : Ext s s') (hW : WF s) (hp : p < nP s) : (isVd s' p ↔ isVd s p) ∧ (isRs s' p ↔ isRs s p) := by
  obtain ⟨_, _, _, _, h5, _, _⟩ := wfP_s (hW.per hp)
  have o : ∀ key a b, onE s' key (byE s' p) p a b = onE s key (byE s p) p a b := fun key a b => by
    unfold onE
    rw [h.xbb hp, h.xee h5 (by decide), h.xpp hp (by decide) (by decide) (by decide), h.xpp hp (by decide) (by decide) (by decide), h.xpp hp (by decide) (by decide) (by decide), sL_v h.2.2.2.2]
  refine ⟨?_, ?_⟩
  · unfold isVd
    rw [h.xcc hp, h.xpp hp (by decide) (by decide) (by decide), o]
  · unfold isRs
    rw [h.xpp hp (by decide) (by decide) (by decide), o]
theorem Ext.xev (h : Ext s s') (hW : WF s) (h12' : nP s' ≤ 12) (he : e < nE s) : wfE s' e := by
  have h12 := hW.nP.1
  obtain ⟨⟨p, hp, a1, a2, a3⟩, d, a4, a5⟩ := hW.eve he
  refine ⟨⟨p, Nat.lt_of_lt_of_le hp h.1, by rw [h.xee he (by decide)]; exact a1, by rw [h.xbb hp]; exact a2, ?_⟩, d, a4, by rw [h.xee he (by decide)]; exact a5⟩
  rw [h.xee he (by decide), h.xbb hp, h.xpp hp (by decide) (by decide) (by decide)]
  exact a3
/-- the rows of claims, deeds, weddings are as they were -/
def sameR (s s' : Rw) : Prop := s' 0 = s 0 ∧ s' 3 = s 3 ∧ s' 4 = s 4 ∧ s' 5 = s 5 ∧ ∀ k, 184 ≤ k → k < 296 → s' k = s k
theorem sR_c (h : sameR s s') (hc : c < 12) (hf : k < 5) : cF s' c k = cF s c k := h.2.2.2.2 _ (by omega) (by omega)
theorem sR_d (h : sameR s s') (hc : c < 10) (hf : k < 2) : dF s' c k = dF s c k := h.2.2.2.2 _ (by omega) (by omega)
theorem sR_w (h : sameR s s') (hc : c < 8) (hf : k < 4) : wF s' c k = wF s c k := h.2.2.2.2 _ (by omega) (by omega)
/-- one who ended is one of those that are there -/
theorem endAt_lt (hW : WF s) (he : e < nE s) (hq : q < 2 ^ 31) (h : endAt s q e) : q < nP s := by
  have h12 := hW.nP.1
  obtain ⟨p, hp, e1, _⟩ := WFev hW he
  rcases h with ⟨_, h⟩ | ⟨h3, p', hp', h1', h⟩
  · have : p = q := (nI_eq (by omega) hq).mp (e1.symm.trans h)
    omega
  · obtain ⟨_, hs⟩ := WFwho hW he hp' h1'
    have h4 : pF s p' 1 = nI 4 := by
      rcases hs with ⟨hs, _⟩ | ⟨hs, _⟩ | ⟨hs, _⟩ | ⟨_, _, hs⟩ | ⟨hs, _⟩
      · rw [h3] at hs; exact absurd hs (by decide)
      · rw [h3] at hs; exact absurd hs (by decide)
      · rw [h3] at hs; exact absurd hs (by decide)
      · exact hs
      · rw [h3] at hs; exact absurd hs (by decide)
    obtain ⟨a, b, ha, hb, ea, eb, _⟩ := WFjq hW hp' h4
    rcases h with h | h
    · have : a = q := (nI_eq (by omega) hq).mp (ea.symm.trans h)
      omega
    · have : b = q := (nI_eq (by omega) hq).mp (eb.symm.trans h)
      omega
/-- one event more -/
theorem WF_ev (hW : WF s) (hx : Ext s s') (hr : sameR s s') (h1 : nP s' ≤ 12 ∧ s' 1 = nI (nP s')) (h2 : nE s' = nE s + 1 ∧ nE s' ≤ 18 ∧ s' 2 = nI (nE s'))
    (hn : ∀ p, nP s ≤ p → p < nP s' → wfPs s' p) (hd : ∀ p, p < nP s' → wfPd s' p) (he : wfE s' (nE s))
    (hu1 : ∀ q e, q < nP s → e < nE s → endAt s q e → ¬ endAt s' q (nE s) ∧ ¬ eF s' (nE s) 1 = nI q)
    (hu2 : ∀ e p, e < nE s → eF s e 0 = nI 2 → eF s e 1 = nI p → eF s' (nE s) 0 = nI 2 → ¬ eF s' (nE s) 1 = nI p) : WF s' := by
  have hnC : nC s' = nC s := by unfold nC; rw [hr.2.1]
  have hnD : nD s' = nD s := by unfold nD; rw [hr.2.2.1]
  have hnW : nW s' = nW s := by unfold nW; rw [hr.2.2.2.1]
  have hnL := sL_n hx.2.2.2.2
  have h12 := hW.nP.1
  refine ⟨⟨by rw [hr.1]; exact hW.day, h1, ⟨h2.2.1, h2.2.2⟩, by rw [hnC, hr.2.1]; exact hW.nC, by rw [hnD, hr.2.2.1]; exact hW.nD, by rw [hnW, hr.2.2.2.1]; exact hW.nW, by rw [hnL, hx.2.2.2.2.1]; exact hW.nL⟩, fun p hp => ?_, fun e he' => ?_, fun q e e' hq he1 he2 hend => ?_, fun e e' p he1 he2 a b a1 b1 => ?_, fun c hc => ?_, fun d hd' => ?_, fun k hk => ?_, fun c hc => ?_⟩
  · by_cases hp2 : p < nP s
    · exact wfP_i (hx.xps hW hp2) (hd p hp)
    · exact wfP_i (hn p (by omega) hp) (hd p hp)
  · by_cases he2 : e < nE s
    · exact hx.xev hW h1.1 he2
    · have : e = nE s := by omega
      subst this; exact he
  · by_cases c1 : e < nE s
    · have hend := (hx.xen hW h1.1 c1).mp hend
      have hq := endAt_lt hW c1 (by omega) hend
      by_cases c2 : e' < nE s
      · have := hW.2.2.2.1 q e e' hq c1 c2 hend
        exact ⟨fun h => this.1 ((hx.xen hW h1.1 c2).mp h), fun h => this.2 (by rw [hx.xee c2 (by decide)] at h; exact h)⟩
      · have : e' = nE s := by omega
        subst this
        have := hu1 q e hq c1 hend
        exact ⟨fun h => absurd h this.1, fun h => absurd h this.2⟩
    · have : e = nE s := by omega
      subst this
      refine ⟨fun h => ?_, fun h => by omega⟩
      by_cases c2 : e' < nE s
      · have h' := (hx.xen hW h1.1 c2).mp h
        exact absurd hend (hu1 q e' (endAt_lt hW c2 (by omega) h') c2 h').1
      · omega
  · by_cases c1 : e < nE s
    · by_cases c2 : e' < nE s
      · rw [hx.xee c1 (by decide)] at a a1
        rw [hx.xee c2 (by decide)] at b b1
        exact hW.2.2.2.2.1 e e' p c1 c2 a b a1 b1
      · have : e' = nE s := by omega
        subst this
        rw [hx.xee c1 (by decide)] at a a1
        exact absurd b1 (hu2 e p c1 a a1 b)
    · have : e = nE s := by omega
      subst this
      by_cases c2 : e' < nE s
      · rw [hx.xee c2 (by decide)] at b b1
        exact absurd a1 (hu2 e' p c2 b b1 a)
      · omega
  · rw [hnC] at hc
    have hc12 := hW.nC.1
    obtain ⟨b1, b2', b3, p, e, hp, he', b4, b5, b6, b7⟩ := WFcl hW hc
    refine ⟨by rw [sR_c hr (by omega) (by decide)]; exact b1, by rw [sR_c hr (by omega) (by decide)]; exact b2', by rw [sR_c hr (by omega) (by decide)]; exact b3, p, e, Nat.lt_of_lt_of_le hp hx.1, by omega, by rw [sR_c hr (by omega) (by decide)]; exact b4, by rw [sR_c hr (by omega) (by decide)]; exact b5, by rw [hx.xbb hp]; exact b6, fun h5 => ?_⟩
    rw [hx.xpp hp (by decide) (by decide) (by decide)] at h5
    obtain ⟨k, x1, x2, x3⟩ := b7 h5
    exact ⟨k, x1, by rw [hx.xee (by omega) (by decide)]; exact x2, by rw [hx.xee (by omega) (by decide)]; exact x3⟩
  · rw [hnD] at hd'
    have hd10 := hW.nD.1
    obtain ⟨⟨p, hp, b1⟩, b2'⟩ := WFnd hW hd'
    exact ⟨⟨p, Nat.lt_of_lt_of_le hp hx.1, by rw [sR_d hr (by omega) (by decide)]; exact b1⟩, by rw [sR_d hr (by omega) (by decide)]; exact b2'⟩
  · rw [hnW] at hk
    have hw8 := hW.nW.1
    obtain ⟨⟨p, hp, b1⟩, ⟨q, hq, b2'⟩, b3, e, he', b4⟩ := WFwd hW hk
    exact ⟨⟨p, Nat.lt_of_lt_of_le hp hx.1, by rw [sR_w hr (by omega) (by decide)]; exact b1⟩, ⟨q, Nat.lt_of_lt_of_le hq hx.1, by rw [sR_w hr (by omega) (by decide)]; exact b2'⟩, by rw [sR_w hr (by omega) (by decide)]; exact b3, e, by omega, by rw [sR_w hr (by omega) (by decide)]; exact b4⟩
  · rw [hnL] at hc
    exact sL_w hx.2.2.2.2 (hW.2.2.2.2.2.2.2.2 c hc)
end F1s
