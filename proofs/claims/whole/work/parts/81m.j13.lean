/-! ===== the law that was read: its row, what holds of it ===== -/
def lwU (T : Nat → Nat) (n : Nat) : Nat → Tok → List Cl → Sum Nat (List Cl)
  | 0, _, cl => .inr cl
  | f + 1, t, cl => if t.1 < n then (match clN T n cl.length t with
    | .inl p => .inl p
    | .inr (t', c) => lwU T n f t' (cl ++ [c])) else .inr cl
abbrev lawN (T : Nat → Nat) (n : Nat) : Sum Nat (List Cl) := lwU T n 11 (lx T n 0) []
def wfCl (c : Cl) : Prop := c.1 ≤ 6 ∧ c.2.1 ≤ 3 ∧ (c.1 = 2 ∨ c.1 = 3 → c.2.1 ≤ 2) ∧ (c.1 = 6 → c.2.1 ≤ 1) ∧ ((c.2.2.1 = 0 ∧ c.2.2.2 = []) ∨ (c.2.2.1 = 1 ∧ dpR c.2.2.2 0 9 1))
def clF (cl : List Cl) (i f : Nat) : Int32 := if f = 0 then nI (cl.getD i (0, 0, 0, [])).1 else if f = 1 then nI (cl.getD i (0, 0, 0, [])).2.1 else if f = 2 then nI (cl.getD i (0, 0, 0, [])).2.2.1 else if f = 3 then nI (bg cl i) else nI (bg cl (i + 1))
def lawS (s : Rw) (cl : List Cl) : Rw := fun k => if 296 ≤ k ∧ k < 346 then (if k - 296 < 5 * cl.length then clF cl ((k - 296) / 5) ((k - 296) % 5) else nI 0) else if 346 ≤ k ∧ k < 546 then (if k - 346 < (eMs (opsOf cl)).length then (eMs (opsOf cl)).getD (k - 346) 0 else nI 0) else if k = 6 then nI cl.length else if k = 8 then nI (eMs (opsOf cl)).length else s k
section J13s
variable {I I' : mI} {J : mJ} {s s' f : Rw} {d k n q p i c m a b e L j : Nat} {x y : Int32} {T : Nat → Nat} {t t' : Tok} {xs : Nat → Int32} {o : List PO} {cl cl' : List Cl} {cc : Cl}
theorem cl_ok (ht : okQ T n t) (h : clN T n m t = .inr (t', cc)) : okQ T n t' ∧ t.1 + (eMs cc.2.2.2).length ≤ t'.1 ∧ wfCl cc ∧ m < 10 := by
  unfold clN at h
  cases hk : fnd T t (txW 6) 0 with
  | none => rw [hk] at h; cases h
  | some key =>
    rw [hk] at h
    have hkl := fnd_lt _ _ _ hk
    rw [tx_l6] at hkl
    have h' : (if m < 10 then (match fnd T (nx T n t) (txW (vtx key)) 0 with
      | none => .inl (nx T n t).1
      | some v => if wdW T (nx T n (nx T n t)) [105, 102] then (match anyG T n (subK T n 3) (nx T n (nx T n (nx T n t))) with
          | .inl p => .inl p
          | .inr (t3, o) => if smc T n t3 then .inr (nx T n t3, (key, v, 1, o)) else .inl t3.1)
        else if smc T n (nx T n (nx T n t)) then .inr (nx T n (nx T n (nx T n t)), (key, v, 0, [])) else .inl (nx T n (nx T n t)).1) else .inl t.1 : Sum Nat (Tok × Cl)) = .inr (t', cc) := h
    by_cases hm : m < 10
    · rw [if_pos hm] at h'
      have ht1 := nx_q (T := T) ht.1
      have ht2 := nx_q (T := T) ht1.1
      have l1 := nx_le (T := T) ht.1
      have l2 := nx_le (T := T) ht1.1
      have u0 := ht.1.1
      have u1 := ht1.1.1
      have u2 := ht2.1.1
      obtain ⟨lv4, lv12⟩ := tx_lv key (by omega)
      cases hv : fnd T (nx T n t) (txW (vtx key)) 0 with
      | none => rw [hv] at h'; cases h'
      | some v =>
        rw [hv] at h'
        have hvl := fnd_lt _ _ _ hv
        have vb : v ≤ 3 ∧ (key = 2 ∨ key = 3 → v ≤ 2) ∧ (key = 6 → v ≤ 1) := by
          refine ⟨by omega, fun h => ?_, fun h => ?_⟩
          · rcases h with h | h
            · subst h; have : (txW (vtx 2)).length = 3 := by decide
              omega
            · subst h; have : (txW (vtx 3)).length = 3 := by decide
              omega
          · subst h
            have : (txW (vtx 6)).length = 2 := by decide
            omega
        simp only at h'
        by_cases hif : wdW T (nx T n (nx T n t)) [105, 102]
        · rw [if_pos hif] at h'
          have ht3 := nx_q (T := T) ht2.1
          have l3 := nx_le (T := T) ht2.1
          have hgr := (sub_ok (T := T) (n := n) 3).2.2 _ ht3
          cases hc : anyG T n (subK T n 3) (nx T n (nx T n (nx T n t))) with
          | inl p => rw [hc] at h'; cases h'
          | inr r =>
            obtain ⟨t3, o⟩ := r
            rw [hc] at h' hgr
            obtain ⟨g1, g2, g3⟩ := hgr
            have l4 := nx_le (T := T) g1.1
            have u3 := g1.1.1
            simp only at h'
            by_cases hs : smc T n t3
            · rw [if_pos hs] at h'
              cases h'
              refine ⟨nx_q g1.1, ?_, ⟨by show key ≤ 6; omega, vb.1, vb.2.1, vb.2.2, Or.inr ⟨rfl, ?_⟩⟩, hm⟩
              · show t.1 + (eMs o).length ≤ (nx T n t3).1
                omega
              · have := g3 0
                rw [Nat.zero_add] at this
                exact this
            · rw [if_neg hs] at h'; cases h'
        · rw [if_neg hif] at h'
          by_cases hs : smc T n (nx T n (nx T n t))
          · rw [if_pos hs] at h'
            cases h'
            have l3 := nx_le (T := T) ht2.1
            refine ⟨nx_q ht2.1, ?_, ⟨by show key ≤ 6; omega, vb.1, vb.2.1, vb.2.2, Or.inl ⟨rfl, rfl⟩⟩, hm⟩
            show t.1 + 0 ≤ _
            omega
          · rw [if_neg hs] at h'; cases h'
    · rw [if_neg hm] at h'; cases h'
def okCs (cl : List Cl) : Prop := cl.length ≤ 10 ∧ (∀ c, c ∈ cl → wfCl c)
theorem okCs_a (h : okCs cl) (hm : cl.length < 10) (hc : wfCl cc) : okCs (cl ++ [cc]) := by
  refine ⟨by rw [List.length_append]; show cl.length + 1 ≤ 10; omega, fun c hc' => ?_⟩
  rcases List.mem_append.mp hc' with h' | h'
  · exact h.2 c h'
  · rw [List.mem_singleton.mp h']; exact hc
theorem eMs_a : (eMs (opsOf (cl ++ [cc]))).length = (eMs (opsOf cl)).length + (eMs cc.2.2.2).length := by
  rw [opsOf_app]
  show (eMs (opsOf cl ++ (cc.2.2.2 ++ []))).length = _
  rw [List.append_nil, eMs_app, List.length_append]
theorem lw_ok : ∀ f t cl, okQ T n t → okCs cl → (eMs (opsOf cl)).length ≤ t.1 → n ≤ 200 → lwU T n f t cl = .inr cl' → okCs cl' ∧ (eMs (opsOf cl')).length ≤ 200
  | 0, t, cl, ht, hc, hr, hn, h => by
    cases h
    have := ht.1.1
    have := ht.1.2.1
    exact ⟨hc, by omega⟩
  | f + 1, t, cl, ht, hc, hr, hn, h => by
    have u1 := ht.1.1
    have u2 := ht.1.2.1
    have h' : (if t.1 < n then (match clN T n cl.length t with | .inl p => .inl p | .inr (t', c) => lwU T n f t' (cl ++ [c])) else .inr cl : Sum Nat (List Cl)) = .inr cl' := h
    by_cases htn : t.1 < n
    · rw [if_pos htn] at h'
      cases hcl : clN T n cl.length t with
      | inl p => rw [hcl] at h'; cases h'
      | inr r =>
        obtain ⟨t1, c⟩ := r
        rw [hcl] at h'
        obtain ⟨g1, g2, g3, g4⟩ := cl_ok ht hcl
        exact lw_ok f t1 (cl ++ [c]) g1 (okCs_a hc g4 g3) (by rw [eMs_a]; omega) hn h'
    · rw [if_neg htn] at h'
      cases h'
      exact ⟨hc, by omega⟩
/-! its row -/
theorem lw_6 : lawS s cl 6 = nI cl.length := by
  unfold lawS
  rw [if_neg (by omega), if_neg (by omega), if_pos rfl]
theorem lw_o (h : k < 296 ∨ 546 ≤ k) (h6 : k ≠ 6) (h8 : k ≠ 8) : lawS s cl k = s k := by
  unfold lawS
  rw [if_neg (by omega), if_neg (by omega), if_neg h6, if_neg h8]
theorem lw_L (h : okCs cl) (hi : i < cl.length) (hf : k < 5) : lF (lawS s cl) i k = clF cl i k := by
  have h10 := h.1
  show lawS s cl (296 + 5 * i + k) = _
  unfold lawS
  rw [if_pos (by omega), if_pos (by omega), show (296 + 5 * i + k - 296) / 5 = i by omega, show (296 + 5 * i + k - 296) % 5 = k by omega]
theorem lw_c (h : (eMs (opsOf cl)).length ≤ 200) (hj : j < (eMs (opsOf cl)).length) : lawS s cl (346 + j) = (eMs (opsOf cl)).getD j 0 := by
  unfold lawS
  rw [if_neg (by omega), if_pos (by omega), if_pos (by omega), show 346 + j - 346 = j by omega]
theorem lw_nL (h : okCs cl) : nL (lawS s cl) = cl.length := by
  have := h.1
  unfold nL
  rw [lw_6, nI_clamp (by omega)]
theorem take_s (hi : i < cl.length) : opsOf (cl.take (i + 1)) = opsOf (cl.take i) ++ (cl.getD i (0, 0, 0, [])).2.2.2 := by
  have e : cl.take (i + 1) = cl.take i ++ [cl.getD i (0, 0, 0, [])] := by
    rw [List.take_add_one, List.getElem?_eq_getElem hi, List.getD_eq_getElem?_getD, List.getElem?_eq_getElem hi]
    rfl
  rw [e, opsOf_app]
  show opsOf (cl.take i) ++ (_ ++ []) = _
  rw [List.append_nil]
theorem all_s (hi : i < cl.length) : ∃ r, opsOf cl = opsOf (cl.take i) ++ ((cl.getD i (0, 0, 0, [])).2.2.2 ++ r) := by
  refine ⟨opsOf (cl.drop (i + 1)), ?_⟩
  have e : cl = cl.take (i + 1) ++ cl.drop (i + 1) := (List.take_append_drop _ _).symm
  rw [← List.append_assoc, ← take_s hi, ← opsOf_app, ← e]
theorem wfCl_i (h : okCs cl) (hi : i < cl.length) : wfCl (cl.getD i (0, 0, 0, [])) := by
  refine h.2 _ ?_
  rw [List.getD_eq_getElem?_getD, List.getElem?_eq_getElem hi]
  exact List.getElem_mem hi
theorem gD_m {α : Type} {a b c : List α} {x : α} (h : j < b.length) : (a ++ (b ++ c)).getD (a.length + j) x = b.getD j x := by
  rw [List.getD_eq_getElem?_getD, List.getElem?_append_right (by omega), Nat.add_sub_cancel_left, List.getElem?_append_left h, ← List.getD_eq_getElem?_getD]
theorem bg_s (hi : i < cl.length) : bg cl (i + 1) = bg cl i + (eMs (cl.getD i (0, 0, 0, [])).2.2.2).length := by
  unfold bg
  rw [take_s hi, eMs_app, List.length_append]
theorem bg_le (h : (eMs (opsOf cl)).length ≤ 200) (hi : i < cl.length) : bg cl (i + 1) ≤ 200 := by
  obtain ⟨r, hr⟩ := all_s hi
  rw [bg_s hi]
  have : (eMs (opsOf cl)).length = bg cl i + ((eMs (cl.getD i (0, 0, 0, [])).2.2.2).length + (eMs r).length) := by
    conv => lhs; rw [hr]
    rw [eMs_app, eMs_app, List.length_append, List.length_append]
    rfl
  omega
/-- the model's code of a CLAUSE -/
theorem cd_m (h : (eMs (opsOf cl)).length ≤ 200) (hi : i < cl.length) (hj : j < (eMs (cl.getD i (0, 0, 0, [])).2.2.2).length) : lawS s cl (346 + (bg cl i + j)) = (eMs (cl.getD i (0, 0, 0, [])).2.2.2).getD j 0 := by
  obtain ⟨r, hr⟩ := all_s hi
  have hlen : (eMs (opsOf cl)).length = bg cl i + ((eMs (cl.getD i (0, 0, 0, [])).2.2.2).length + (eMs r).length) := by
    conv => lhs; rw [hr]
    rw [eMs_app, eMs_app, List.length_append, List.length_append]
    rfl
  rw [lw_c h (by omega)]
  conv => lhs; rw [hr, eMs_app, eMs_app]
  exact gD_m hj
theorem lw_wfL (h : okCs cl) (h2 : (eMs (opsOf cl)).length ≤ 200) (hi : i < cl.length) : wfL (lawS s cl) i := by
  obtain ⟨w1, w2, w3, w4, w5⟩ := wfCl_i h hi
  have b1 := bg_s hi
  have b2 := bg_le h2 hi
  refine ⟨⟨bg cl i, bg cl (i + 1), by omega, b2, by rw [lw_L h hi (by decide)]; rfl, by rw [lw_L h hi (by decide)]; rfl, ?_⟩, ⟨_, _, w1, w2, by rw [lw_L h hi (by decide)]; rfl, by rw [lw_L h hi (by decide)]; rfl, w3, w4⟩⟩
  have e2 : lF (lawS s cl) i 2 = nI (cl.getD i (0, 0, 0, [])).2.2.1 := by rw [lw_L h hi (by decide)]; rfl
  rw [e2]
  rcases w5 with ⟨h0, ho⟩ | ⟨h1, hd⟩
  · rw [h0]
    refine Or.inl ⟨rfl, ?_⟩
    rw [b1, ho]; rfl
  · rw [h1]
    refine Or.inr ⟨rfl, ?_⟩
    have := wfk_ev (s := lawS s cl) (cl.getD i (0, 0, 0, [])).2.2.2 (bg cl i) 0 0 1 (fun j hj => cd_m h2 hi hj) hd (by decide) rfl
    rw [b1, show bg cl i + (eMs (cl.getD i (0, 0, 0, [])).2.2.2).length - bg cl i = (eMs (cl.getD i (0, 0, 0, [])).2.2.2).length + 0 by omega]
    exact this
theorem lw_RepL (h : okCs cl) (h2 : (eMs (opsOf cl)).length ≤ 200) (hL : LwC I cl) : RepL I 200 (lawS s cl) := by
  obtain ⟨l1, l2, l3, l4, l5⟩ := hL
  have hn := lw_nL (s := s) h
  have lle : ∀ i, i ≤ cl.length → (opsOf (cl.take i)).length ≤ 200 := fun i hi => by
    have e : opsOf cl = opsOf (cl.take i) ++ opsOf (cl.drop i) := by rw [← opsOf_app, List.take_append_drop]
    have := eMs_len (opsOf cl)
    have e2 : (opsOf cl).length = (opsOf (cl.take i)).length + (opsOf (cl.drop i)).length := by
      conv => lhs; rw [e]
      rw [List.length_append]
    omega
  refine ⟨by rw [l1, lw_6], fun i => (opsOf (cl.take i)).length, fun i hi => ⟨l3 i (by omega), lle i (by omega)⟩, fun i hi => ?_⟩
  rw [hn] at hi
  have ts := take_s hi
  have tl : (opsOf (cl.take (i + 1))).length = (opsOf (cl.take i)).length + (cl.getD i (0, 0, 0, [])).2.2.2.length := by rw [ts, List.length_append]
  obtain ⟨w1, w2, w3, w4, w5⟩ := wfCl_i h hi
  have code : ∀ j, j < (cl.getD i (0, 0, 0, [])).2.2.2.length → I 204 ((opsOf (cl.take i)).length + j) = eC ((cl.getD i (0, 0, 0, [])).2.2.2.getD j (0, 0, 0, 0)) := fun j hj => by
    obtain ⟨r, hr⟩ := all_s hi
    have hlen : (opsOf cl).length = (opsOf (cl.take i)).length + ((cl.getD i (0, 0, 0, [])).2.2.2.length + r.length) := by
      conv => lhs; rw [hr]
      rw [List.length_append, List.length_append]
    rw [l5 _ (by omega)]
    conv => lhs; rw [hr]
    rw [gD_m hj]
  have valid : ∀ (l : List PO) (d b f j : Nat), dpR l d b f → j < l.length → ((l.getD j (0, 0, 0, 0)).1 = 0 ∧ (l.getD j (0, 0, 0, 0)).2.1 ≤ 2 ∧ (l.getD j (0, 0, 0, 0)).2.2.1 < 10006 ∧ (l.getD j (0, 0, 0, 0)).2.2.2 < 10006) ∨ (l.getD j (0, 0, 0, 0)).1 = 1 ∨ (l.getD j (0, 0, 0, 0)).1 = 2 ∨ (l.getD j (0, 0, 0, 0)).1 = 3 := by
    intro l
    induction l with
    | nil => intro d b f j _ hj; exact absurd hj (Nat.not_lt_zero _)
    | cons x l ih =>
      intro d b f j hd hj
      cases j with
      | zero =>
        rcases hd with ⟨h0, g1, g2, g3, _, _⟩ | ⟨h0, _, _⟩ | ⟨h0, _, _⟩
        · exact Or.inl ⟨h0, g1, g2, g3⟩
        · exact Or.inr (Or.inl h0)
        · exact Or.inr (Or.inr h0)
      | succ j =>
        have hj' : j < l.length := by simpa using hj
        rcases hd with ⟨_, _, _, _, _, h'⟩ | ⟨_, _, h'⟩ | ⟨_, _, h'⟩
        · exact ih _ _ _ j h' hj'
        · exact ih _ _ _ j h' hj'
        · exact ih _ _ _ j h' hj'
  refine ⟨by show (opsOf (cl.take i)).length ≤ (opsOf (cl.take (i + 1))).length; omega, ?_, ?_, fun k hk1 hk2 => ?_, fun f => ?_⟩
  · rw [lw_L h hi (by decide)]; exact (l2 i hi).1
  · rw [lw_L h hi (by decide)]; exact (l2 i hi).2
  · have hk2' : k < (opsOf (cl.take (i + 1))).length := hk2
    have hk1' : (opsOf (cl.take i)).length ≤ k := hk1
    have hc := code (k - (opsOf (cl.take i)).length) (by omega)
    rw [show (opsOf (cl.take i)).length + (k - (opsOf (cl.take i)).length) = k by omega] at hc
    rcases w5 with ⟨_, ho⟩ | ⟨_, hd⟩
    · rw [ho] at tl
      simp only [List.length_nil] at tl
      omega
    · have hv := valid _ _ _ _ (k - (opsOf (cl.take i)).length) hd (by omega)
      unfold wfc
      show (∃ g l r, _) ∨ _
      rw [show (200 + 4 : Nat) = 204 from rfl, hc]
      rcases hv with ⟨h0, g1, g2, g3⟩ | h0 | h0 | h0
      · exact Or.inl ⟨_, _, _, g1, g2, g3, by unfold eC; rw [if_pos h0]⟩
      · exact Or.inr (Or.inl (eC_1 h0))
      · exact Or.inr (Or.inr (Or.inl (eC_2 h0)))
      · exact Or.inr (Or.inr (Or.inr (eC_3 h0)))
  · show (¬ crun (I 204) f ((opsOf (cl.take (i + 1))).length - (opsOf (cl.take i)).length) (opsOf (cl.take i)).length (nI 1) &&& nI 1 = 0) ↔ hld (lawS s cl) i f
    rw [tl, Nat.add_sub_cancel_left]
    unfold hld
    have e2 : lF (lawS s cl) i 2 = nI (cl.getD i (0, 0, 0, [])).2.2.1 := by rw [lw_L h hi (by decide)]; rfl
    have e3 : lF (lawS s cl) i 3 = nI (bg cl i) := by rw [lw_L h hi (by decide)]; rfl
    have e4 : lF (lawS s cl) i 4 = nI (bg cl (i + 1)) := by rw [lw_L h hi (by decide)]; rfl
    have b1 := bg_s hi
    have b2 := bg_le h2 hi
    rw [e2, e3, e4, nI_clamp (show bg cl i < 2 ^ 31 by omega), nI_clamp (show bg cl (i + 1) < 2 ^ 31 by omega)]
    rcases w5 with ⟨h0, ho⟩ | ⟨h1, hd⟩
    · rw [h0, ho]
      exact ⟨fun _ => Or.inl rfl, fun _ => by show ¬ nI 1 &&& nI 1 = 0; decide⟩
    · obtain ⟨c1, c2⟩ := crun_ev (C := I 204) (f := f) (cl.getD i (0, 0, 0, [])).2.2.2 (opsOf (cl.take i)).length [] 1 code (by decide) hd
      have m1 := mrun_ev (s := lawS s cl) (f := f) (cl.getD i (0, 0, 0, [])).2.2.2 (bg cl i) 0 [] 1 (fun j hj => cd_m h2 hi hj) hd
      rw [show nI (bs []) = nI 1 from rfl] at c1
      rw [c1, h1, b1, show bg cl i + (eMs (cl.getD i (0, 0, 0, [])).2.2.2).length - bg cl i = (eMs (cl.getD i (0, 0, 0, [])).2.2.2).length + 0 by omega]
      rw [show mrun (lawS s cl) f ((eMs (cl.getD i (0, 0, 0, [])).2.2.2).length + 0) (bg cl i) [] = mrun (lawS s cl) f ((eMs (cl.getD i (0, 0, 0, [])).2.2.2).length + 0) (bg cl i) (([] : List Bool).map bI) from rfl, m1]
      generalize evB f (cl.getD i (0, 0, 0, [])).2.2.2 [] = st at c2 ⊢
      show (¬ nI (bs st) &&& nI 1 = 0) ↔ nI 1 = nI 0 ∨ (st.map bI).head? = some (nI 1)
      cases st with
      | nil => exact absurd c2 (by decide)
      | cons b r =>
        cases r with
        | nil => cases b <;> decide
        | cons a r => exact absurd c2 (by simp)
end J13s
