/-! ===== names, numbers, other bytes: the model ===== -/
def bA (T : Nat → Nat) (n k : Nat) : Int32 := if k < n then nI (T k) else Int32.ofInt (-1)
def TxM (I : mI) (T : Nat → Nat) (n : Nat) : Prop := I 229 7 = nI n ∧ ∀ k, k < n → I 233 k = nI (T k)
def LxM (I : mI) (t : Tok) : Prop := I 229 8 = nI t.1 ∧ I 229 9 = nI t.2
/-- only where a name stands differs -/
abbrev FN (I' I : mI) : Prop := (∀ a, a ≠ 229 → I' a = I a) ∧ ∀ j, j ≠ 8 → j ≠ 9 → I' 229 j = I 229 j
section J3s
variable {I I' : mI} {J : mJ} {d k n q p i c m a e f b : Nat} {x z u v w : Int32} {T : Nat → Nat}
theorem FN.tr {I1 : mI} (h : FN I' I1) (h2 : FN I1 I) : FN I' I := ⟨fun a b => (h.1 a b).trans (h2.1 a b), fun j b c => (h.2 j b c).trans (h2.2 j b c)⟩
theorem FN.rf : FN I I := ⟨fun _ _ => rfl, fun _ _ _ => rfl⟩
theorem TxM.fn (h : TxM I T n) (hf : FN I' I) : TxM I' T n := ⟨by rw [hf.2 7 (by decide) (by decide)]; exact h.1, fun k hk => by rw [hf.1 233 (by decide)]; exact h.2 k hk⟩
theorem FN.wr {v : Int32} (hk : k = 8 ∨ k = 9) : FN (wI I 229 k v) I := ⟨fun a h => wI_F1 a h, fun j h h' => wI_nk (by omega)⟩
theorem m178 (hT : okT T n) (hX : TxM I T n) (hk : k < 2 ^ 31) : am_cal (d + 1) 178 [.ref 229, .int (nI k)] (mS I J) = some (some (.int (bA T n k)), mS I J) := by
  have hn := hT.1
  rw [c_178 lc_229]
  unfold bA
  by_cases h : k < n
  · skip
    have i0c : (nI (k)).toNatClampNeg = k := nI_clamp (by omega)
    have i0z : (nI (k) < 0) = False := n_ge0 (by omega)
    have i0l : (200 ≤ k) = False := n_lef (by omega)
    simp only [lc_229, lr_229_4, lc_233, ll_233, hX.1, hX.2 k h, n_lt hk (show n < 2 ^ 31 by omega), eq_true h, i0c, i0z, i0l, lc_229, lr_229_0, lc_230, ll_230, bq_s, mS_c, mS_l, mS_r, mS_i, mS_j, mS_pi, mS_pj, lt_st, bq_s, bV_s, bI_s, bJ_s, bA_s, nz_0, nc_0, nz_1, nc_1, nz_2, nc_2, nz_3, nc_3, nz_4, nc_4, nz_5, nc_5, nz_6, nc_6, nz_7, nc_7, nz_8, nc_8, nz_9, nc_9, nz_10, nc_10, nz_11, nc_11, nz_12, nc_12, if_true, if_false, eq_self, true_and, and_true, false_or, or_false, true_or, or_true, false_and, and_false, not_true, not_false_eq_true, ne_eq, ite_self, ite_not, ↓reduceIte]
  · simp only [lc_229, hX.1, n_lt hk (show n < 2 ^ 31 by omega), eq_false h, lc_229, lr_229_0, lc_230, ll_230, bq_s, mS_c, mS_l, mS_r, mS_i, mS_j, mS_pi, mS_pj, lt_st, bq_s, bV_s, bI_s, bJ_s, bA_s, nz_0, nc_0, nz_1, nc_1, nz_2, nc_2, nz_3, nc_3, nz_4, nc_4, nz_5, nc_5, nz_6, nc_6, nz_7, nc_7, nz_8, nc_8, nz_9, nc_9, nz_10, nc_10, nz_11, nc_11, nz_12, nc_12, if_true, if_false, eq_self, true_and, and_true, false_or, or_false, true_or, or_true, false_and, and_false, not_true, not_false_eq_true, ne_eq, ite_self, ite_not, ↓reduceIte]
theorem m179 (hT : okT T n) : am_cal (d + 2) 179 [.int (bA T n k)] (mS I J) = some (some (.int (if k < n ∧ ltr (T k) then nI 1 else nI 0)), mS I J) := by
  rw [c_179, m151 (by decide) (by decide), bI_s]
  unfold bA
  by_cases h : k < n
  · have hb := hT.2 k h
    rw [if_pos h]
    have e : (¬ nI (T k) < nI 97 ∧ ¬ nI 122 < nI (T k)) = (k < n ∧ ltr (T k)) := by
      rw [n_lt (by omega) (by decide), n_lt (by decide) (by omega)]
      exact propext ⟨fun hh => ⟨h, by omega, by omega⟩, fun hh => by have := hh.2; omega⟩
    simp only [ite_b01, if_true, e]
  · rw [if_neg h]
    simp only [ite_b01, if_true]
    rw [if_neg (show ¬ (¬ Int32.ofInt (-1) < nI 97 ∧ ¬ nI 122 < Int32.ofInt (-1)) by decide), if_neg (fun hh => h hh.1)]
theorem m180 (hT : okT T n) : am_cal (d + 2) 180 [.int (bA T n k)] (mS I J) = some (some (.int (if k < n ∧ dgt (T k) then nI 1 else nI 0)), mS I J) := by
  rw [c_180, m151 (by decide) (by decide), bI_s]
  unfold bA
  by_cases h : k < n
  · have hb := hT.2 k h
    rw [if_pos h]
    have e : (¬ nI (T k) < nI 48 ∧ ¬ nI 57 < nI (T k)) = (k < n ∧ dgt (T k)) := by
      rw [n_lt (by omega) (by decide), n_lt (by decide) (by omega)]
      exact propext ⟨fun hh => ⟨h, by omega, by omega⟩, fun hh => by have := hh.2; omega⟩
    simp only [ite_b01, if_true, e]
  · rw [if_neg h]
    simp only [ite_b01, if_true]
    rw [if_neg (show ¬ (¬ Int32.ofInt (-1) < nI 48 ∧ ¬ nI 57 < Int32.ofInt (-1)) by decide), if_neg (fun hh => h hh.1)]
/-- on to the end of a name, of a number -/
theorem e181l (hT : okT T n) {x : Int32} : ∀ f e (I : mI), f + e = n → TxM I T n → I 229 9 = nI e → ¬ x = 0 → am_X (am_cal (d + 2)) 181 43 [.ref 229, .int x, .int (nI 0)] [] (mS I J) = some (none, mS (wI I 229 9 (nI (spl T n f e))) J) := by
  have hn := hT.1
  have same : ∀ (e : Nat) (I : mI), I 229 9 = nI e → wI I 229 9 (nI e) = I := fun e I h => by
    funext c j
    unfold wI
    by_cases hh : c = 229 ∧ j = 9
    · rw [if_pos hh, hh.1, hh.2, h]
    · rw [if_neg hh]
  intro f
  induction f with
  | zero =>
    intro e I hf hX h9 hx
    rw [show spl T n 0 e = e from rfl, same e I h9, e_181_43]
    simp only [lc_229, h9, if_neg hx, z_t, m178 hT hX (show e < 2 ^ 31 by omega), m179 hT, eq_false (show ¬ e < n by omega), lc_229, lr_229_0, lc_230, ll_230, bq_s, mS_c, mS_l, mS_r, mS_i, mS_j, mS_pi, mS_pj, lt_st, bq_s, bV_s, bI_s, bJ_s, bA_s, nz_0, nc_0, nz_1, nc_1, nz_2, nc_2, nz_3, nc_3, nz_4, nc_4, nz_5, nc_5, nz_6, nc_6, nz_7, nc_7, nz_8, nc_8, nz_9, nc_9, nz_10, nc_10, nz_11, nc_11, nz_12, nc_12, if_true, if_false, eq_self, true_and, and_true, false_or, or_false, true_or, or_true, false_and, and_false, not_true, not_false_eq_true, ne_eq, ite_self, ite_not, ↓reduceIte]
  | succ f ih =>
    intro e I hf hX h9 hx
    rw [e_181_43]
    simp only [lc_229, h9, if_neg hx, z_t, m178 hT hX (show e < 2 ^ 31 by omega), m179 hT, nI_add, lc_229, lr_229_0, lc_230, ll_230, bq_s, mS_c, mS_l, mS_r, mS_i, mS_j, mS_pi, mS_pj, lt_st, bq_s, bV_s, bI_s, bJ_s, bA_s, nz_0, nc_0, nz_1, nc_1, nz_2, nc_2, nz_3, nc_3, nz_4, nc_4, nz_5, nc_5, nz_6, nc_6, nz_7, nc_7, nz_8, nc_8, nz_9, nc_9, nz_10, nc_10, nz_11, nc_11, nz_12, nc_12, if_true, if_false, eq_self, true_and, and_true, false_or, or_false, true_or, or_true, false_and, and_false, not_true, not_false_eq_true, ne_eq, ite_self, ite_not, ↓reduceIte]
    rw [spl_s]
    by_cases hl : e < n ∧ ltr (T e)
    · rw [if_pos hl, if_neg (by decide), if_pos hl, ih (e + 1) _ (by omega) (hX.fn (FN.wr (Or.inr rfl))) wI_eq hx]
      have e2 : wI (wI I 229 9 (nI (e + 1))) 229 9 (nI (spl T n f (e + 1))) = wI I 229 9 (nI (spl T n f (e + 1))) := by
        funext c j
        unfold wI
        split <;> rfl
      rw [e2]
    · rw [if_neg hl, if_pos nI_0, if_neg hl, same e I h9]
theorem spd_s : spd T n (f + 1) e = if e < n ∧ dgt (T e) then spd T n f (e + 1) else e := rfl
theorem skp_s : skp T n (f + 1) e = if e < n ∧ T e = 32 then skp T n f (e + 1) else e := rfl
theorem e181d (hT : okT T n) {x : Int32} : ∀ f e (I : mI), f + e = n → TxM I T n → I 229 9 = nI e → ¬ x = 0 → am_X (am_cal (d + 2)) 181 43 [.ref 229, .int (nI 0), .int x] [] (mS I J) = some (none, mS (wI I 229 9 (nI (spd T n f e))) J) := by
  have hn := hT.1
  have same : ∀ (e : Nat) (I : mI), I 229 9 = nI e → wI I 229 9 (nI e) = I := fun e I h => by
    funext c j
    unfold wI
    by_cases hh : c = 229 ∧ j = 9
    · rw [if_pos hh, hh.1, hh.2, h]
    · rw [if_neg hh]
  intro f
  induction f with
  | zero =>
    intro e I hf hX h9 hx
    rw [show spd T n 0 e = e from rfl, same e I h9, e_181_43]
    simp only [lc_229, h9, if_neg hx, z_t, m178 hT hX (show e < 2 ^ 31 by omega), m180 hT, eq_false (show ¬ e < n by omega), lc_229, lr_229_0, lc_230, ll_230, bq_s, mS_c, mS_l, mS_r, mS_i, mS_j, mS_pi, mS_pj, lt_st, bq_s, bV_s, bI_s, bJ_s, bA_s, nz_0, nc_0, nz_1, nc_1, nz_2, nc_2, nz_3, nc_3, nz_4, nc_4, nz_5, nc_5, nz_6, nc_6, nz_7, nc_7, nz_8, nc_8, nz_9, nc_9, nz_10, nc_10, nz_11, nc_11, nz_12, nc_12, if_true, if_false, eq_self, true_and, and_true, false_or, or_false, true_or, or_true, false_and, and_false, not_true, not_false_eq_true, ne_eq, ite_self, ite_not, ↓reduceIte]
  | succ f ih =>
    intro e I hf hX h9 hx
    rw [e_181_43]
    simp only [lc_229, h9, if_neg hx, z_t, m178 hT hX (show e < 2 ^ 31 by omega), m180 hT, nI_add, lc_229, lr_229_0, lc_230, ll_230, bq_s, mS_c, mS_l, mS_r, mS_i, mS_j, mS_pi, mS_pj, lt_st, bq_s, bV_s, bI_s, bJ_s, bA_s, nz_0, nc_0, nz_1, nc_1, nz_2, nc_2, nz_3, nc_3, nz_4, nc_4, nz_5, nc_5, nz_6, nc_6, nz_7, nc_7, nz_8, nc_8, nz_9, nc_9, nz_10, nc_10, nz_11, nc_11, nz_12, nc_12, if_true, if_false, eq_self, true_and, and_true, false_or, or_false, true_or, or_true, false_and, and_false, not_true, not_false_eq_true, ne_eq, ite_self, ite_not, ↓reduceIte]
    rw [spd_s]
    by_cases hl : e < n ∧ dgt (T e)
    · rw [if_pos hl, if_neg (by decide), if_pos hl, ih (e + 1) _ (by omega) (hX.fn (FN.wr (Or.inr rfl))) wI_eq hx]
      have e2 : wI (wI I 229 9 (nI (e + 1))) 229 9 (nI (spd T n f (e + 1))) = wI I 229 9 (nI (spd T n f (e + 1))) := by
        funext c j
        unfold wI
        split <;> rfl
      rw [e2]
    · rw [if_neg hl, if_pos nI_0, if_neg hl, same e I h9]
theorem bA_32 (hT : okT T n) : (bA T n k = nI 32) = (k < n ∧ T k = 32) := by
  unfold bA
  by_cases h : k < n
  · have := hT.2 k h
    rw [if_pos h, n_eq (by omega) (by decide)]
    exact propext ⟨fun hh => ⟨h, hh⟩, fun hh => hh.2⟩
  · rw [if_neg h]
    exact propext ⟨fun hh => absurd hh (by decide), fun hh => absurd hh.1 h⟩
theorem e181 (hT : okT T n) : ∀ f a (I : mI), f + a = n → TxM I T n → I 229 8 = nI a → ∃ I', FN I' I ∧ LxM I' (skp T n f a, lxE T n (skp T n f a)) ∧ am_X (am_cal (d + 2)) 181 4 [.ref 229, .null, .null] [] (mS I J) = some (none, mS I' J) := by
  have hn := hT.1
  have here : ∀ a (I : mI), a ≤ n → TxM I T n → I 229 8 = nI a → ¬ (a < n ∧ T a = 32) → ∃ I', FN I' I ∧ LxM I' (a, lxE T n a) ∧ am_X (am_cal (d + 2)) 181 4 [.ref 229, .null, .null] [] (mS I J) = some (none, mS I' J) := fun a I ha hX h8 hs => by
    have e0 : am_X (am_cal (d + 2)) 181 4 [.ref 229, .null, .null] [] (mS I J) = _ := e_181_4
    simp only [lc_229, h8, m178 hT hX (show a < 2 ^ 31 by omega), bA_32 hT, eq_false hs, m179 hT, m180 hT, hX.1, n_lt (show a < 2 ^ 31 by omega) (show n < 2 ^ 31 by omega), nI_add, lc_229, lr_229_0, lc_230, ll_230, bq_s, mS_c, mS_l, mS_r, mS_i, mS_j, mS_pi, mS_pj, lt_st, bq_s, bV_s, bI_s, bJ_s, bA_s, nz_0, nc_0, nz_1, nc_1, nz_2, nc_2, nz_3, nc_3, nz_4, nc_4, nz_5, nc_5, nz_6, nc_6, nz_7, nc_7, nz_8, nc_8, nz_9, nc_9, nz_10, nc_10, nz_11, nc_11, nz_12, nc_12, if_true, if_false, eq_self, true_and, and_true, false_or, or_false, true_or, or_true, false_and, and_false, not_true, not_false_eq_true, ne_eq, ite_self, ite_not, ↓reduceIte] at e0
    unfold lxE
    by_cases han : a < n
    · rw [if_pos han] at e0
      rw [if_pos han]
      have hX1 : TxM (wI I 229 9 (nI (a + 1))) T n := hX.fn (FN.wr (Or.inr rfl))
      have ww : ∀ v w : Int32, wI (wI I 229 9 v) 229 9 w = wI I 229 9 w := fun v w => by
        funext c j
        unfold wI
        split <;> rfl
      by_cases hl : ltr (T a)
      · have hd : ¬ dgt (T a) := by omega
        rw [if_pos ⟨han, hl⟩, if_neg (fun h => hd h.2), e181l hT (n - (a + 1)) (a + 1) _ (by omega) hX1 wI_eq (by decide), ww] at e0
        rw [if_pos hl]
        exact ⟨_, FN.wr (Or.inr rfl), ⟨by rw [wI_nk (by decide)]; exact h8, wI_eq⟩, e0⟩
      · rw [if_neg (fun h => hl h.2)] at e0
        rw [if_neg hl]
        by_cases hd : dgt (T a)
        · rw [if_pos ⟨han, hd⟩, e181d hT (n - (a + 1)) (a + 1) _ (by omega) hX1 wI_eq (by decide), ww] at e0
          rw [if_pos hd]
          exact ⟨_, FN.wr (Or.inr rfl), ⟨by rw [wI_nk (by decide)]; exact h8, wI_eq⟩, e0⟩
        · rw [if_neg (fun h => hd h.2), e_181_43, if_pos nI_0, if_pos nI_0] at e0
          rw [if_neg hd]
          exact ⟨_, FN.wr (Or.inr rfl), ⟨by rw [wI_nk (by decide)]; exact h8, wI_eq⟩, e0⟩
    · rw [if_neg han, if_neg (fun h => han h.1), if_neg (fun h => han h.1), e_181_43, if_pos nI_0, if_pos nI_0] at e0
      rw [if_neg han]
      exact ⟨_, FN.wr (Or.inr rfl), ⟨by rw [wI_nk (by decide)]; exact h8, wI_eq⟩, e0⟩
  intro f
  induction f with
  | zero =>
    intro a I hf hX h8
    exact here a I (by omega) hX h8 (fun h => by omega)
  | succ f ih =>
    intro a I hf hX h8
    rw [skp_s]
    by_cases hs : a < n ∧ T a = 32
    · rw [if_pos hs]
      obtain ⟨I', a1, a2, a3⟩ := ih (a + 1) (wI I 229 8 (nI (a + 1))) (by omega) (hX.fn (FN.wr (Or.inl rfl))) wI_eq
      refine ⟨I', a1.tr (FN.wr (Or.inl rfl)), a2, ?_⟩
      rw [e_181_4]
      simp only [lc_229, h8, m178 hT hX (show a < 2 ^ 31 by omega), bA_32 hT, eq_true hs, nI_add, lc_229, lr_229_0, lc_230, ll_230, bq_s, mS_c, mS_l, mS_r, mS_i, mS_j, mS_pi, mS_pj, lt_st, bq_s, bV_s, bI_s, bJ_s, bA_s, nz_0, nc_0, nz_1, nc_1, nz_2, nc_2, nz_3, nc_3, nz_4, nc_4, nz_5, nc_5, nz_6, nc_6, nz_7, nc_7, nz_8, nc_8, nz_9, nc_9, nz_10, nc_10, nz_11, nc_11, nz_12, nc_12, if_true, if_false, eq_self, true_and, and_true, false_or, or_false, true_or, or_true, false_and, and_false, not_true, not_false_eq_true, ne_eq, ite_self, ite_not, ↓reduceIte]
      exact a3
    · rw [if_neg hs]
      exact here a I (by omega) hX h8 hs
theorem m181 (hT : okT T n) (hX : TxM I T n) (h9 : I 229 9 = nI e) (he : e ≤ n) : ∃ I', FN I' I ∧ LxM I' (lx T n e) ∧ am_cal (d + 3) 181 [.ref 229] (mS I J) = some (none, mS I' J) := by
  obtain ⟨I', a1, a2, a3⟩ := e181 (d := d) (J := J) hT (n - e) e (wI I 229 8 (nI e)) (by omega) (hX.fn (FN.wr (Or.inl rfl))) wI_eq
  refine ⟨I', a1.tr (FN.wr (Or.inl rfl)), a2, ?_⟩
  rw [c_181 lc_229]
  simp only [lc_229, h9, lc_229, lr_229_0, lc_230, ll_230, bq_s, mS_c, mS_l, mS_r, mS_i, mS_j, mS_pi, mS_pj, lt_st, bq_s, bV_s, bI_s, bJ_s, bA_s, nz_0, nc_0, nz_1, nc_1, nz_2, nc_2, nz_3, nc_3, nz_4, nc_4, nz_5, nc_5, nz_6, nc_6, nz_7, nc_7, nz_8, nc_8, nz_9, nc_9, nz_10, nc_10, nz_11, nc_11, nz_12, nc_12, if_true, if_false, eq_self, true_and, and_true, false_or, or_false, true_or, or_true, false_and, and_false, not_true, not_false_eq_true, ne_eq, ite_self, ite_not, ↓reduceIte]
  exact a3
end J3s
