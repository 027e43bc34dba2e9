/-! ===== remembers, apart, blame ===== -/
def v_rem (s : Rw) (x y : Int32) : Int32 := if isP s x then (if isDd s y then (if rem s y.toNatClampNeg x.toNatClampNeg = true then nI 1 else nI 0) else Int32.ofInt (-1)) else Int32.ofInt (-1)
def apU (s : Rw) (p q : Nat) : Nat → Nat → Int32
  | 0, _ => m9
  | n + 1, d => if rem s d p = rem s d q then apU s p q n (d + 1) else nI d
theorem apU_s {s : Rw} {p q n d : Nat} : apU s p q (n + 1) d = if rem s d p = rem s d q then apU s p q n (d + 1) else nI d := rfl
def v_apart (s : Rw) (x y : Int32) : Int32 := if isP s x then (if isP s y then apU s x.toNatClampNeg y.toNatClampNeg (nD s) 0 else Int32.ofInt (-1)) else Int32.ofInt (-1)
def cnd (s : Rw) (p : Nat) : Prop := isAw s p ∧ ¬ isVd s p
noncomputable def cnB (s : Rw) (p : Nat) : Bool := @decide (cnd s p) (Classical.propDecidable _)
theorem cnB_t {s : Rw} {p : Nat} (h : cnd s p) : cnB s p = true := by unfold cnB; exact @decide_eq_true _ (Classical.propDecidable _) h
theorem cnB_f {s : Rw} {p : Nat} (h : ¬ cnd s p) : cnB s p = false := by unfold cnB; exact @decide_eq_false _ (Classical.propDecidable _) h
def bdy (s : Rw) : Nat → Nat → Nat
  | 0, p => p
  | n + 1, p => if pF s p 7 < 0 then p else bdy s n (pF s p 7).toNatClampNeg
theorem bdy_s {s : Rw} {n p : Nat} : bdy s (n + 1) p = if pF s p 7 < 0 then p else bdy s n (pF s p 7).toNatClampNeg := rfl
def unE (s : Rw) (p : Nat) : Int32 := if pF s p 0 = nI 6 then nI 0 else nI 1 <<< (nI p &&& 31)
noncomputable def v_blame (s : Rw) (y : Int32) : Int32 := if isDd s y then
  (let d := y.toNatClampNeg
   let p := (dF s d 0).toNatClampNeg
   let v := lawV s (nI 2) (fct (s 0) (s 1) (nI 0) (pF s p 0) (nI 0) (nI 0))
   if v = nI 1 then mkS (fun q => cnB s q && rem s d q) (nP s) else if v = nI 2 then unE s (rt s (nP s) p) else unE s (bdy s (nP s) p)) else Int32.ofInt (-1)
theorem lawV_23 {s : Rw} (hW : WF s) {f : Rw} {k : Nat} (hk : k = 2 ∨ k = 3) : lawV s (nI k) f = nI 0 ∨ lawV s (nI k) f = nI 1 ∨ lawV s (nI k) f = nI 2 := by
  unfold lawV
  have lp : ∀ c, c ≤ nL s → lawU s (nI k) f c = nI 0 ∨ lawU s (nI k) f c = nI 1 ∨ lawU s (nI k) f c = nI 2 := by
    intro c
    induction c with
    | zero => intro _; exact Or.inl rfl
    | succ c ih =>
      intro hc
      rw [lawU_s]
      split
      · rename_i h
        obtain ⟨k', v, hk', hv, e0, e1, h2, _⟩ := (hW.2.2.2.2.2.2.2.2 c hc).2
        rw [e0] at h
        have := (nI_eq (by omega) (by omega)).mp h.1
        have := h2 (by omega)
        rw [e1]
        rcases (show v = 0 ∨ v = 1 ∨ v = 2 by omega) with rfl | rfl | rfl
        · exact Or.inl rfl
        · exact Or.inr (Or.inl rfl)
        · exact Or.inr (Or.inr rfl)
      · exact ih (by omega)
  exact lp _ (Nat.le_refl _)
section C2
variable {I : mI} {J : mJ} {w p q e c d l b g : Nat} {s : Rw} {x y key day : Int32}
theorem WFin (hW : WF s) (hp : p < nP s) : pF s p 7 = m9 ∨ (pF s p 0 = nI 6 ∧ ∃ j, p < j ∧ j < nP s ∧ pF s p 7 = nI j) := (hW.per hp).2.2.1
theorem bdy_lt (hW : WF s) : ∀ (n p : Nat), p < nP s → bdy s n p < nP s
  | 0, p, h => h
  | n + 1, p, h => by
    rw [bdy_s]
    rcases WFin hW h with h2 | ⟨_, j, hj, hj2, h2⟩
    · rw [h2, if_pos (by rw [m9_lt]; trivial)]; exact h
    · have := hW.nP.1
      rw [h2, if_neg (nI_pos (by omega)), nI_clamp (by omega)]
      exact bdy_lt hW n j hj2
/-! the model -/
theorem m217 (hW : WF (I 230)) : am_cal (g + 4) 217 [.ref 229, .int x, .int y] (mS I J) = some (some (.int (v_rem (I 230) x y)), mS I J) := by
  have h12 := hW.nP.1
  have h10 := hW.nD.1
  rw [c_217 lc_229, m153 hW, bI_s]
  unfold v_rem
  by_cases hx : isP (I 230) x
  · rw [if_pos hx, if_pos hx, if_neg (by decide), m214 hW, bI_s]
    by_cases hy : isDd (I 230) y
    · rw [if_pos hy, if_pos hy, if_neg (by decide)]
      obtain ⟨p, hp, rfl⟩ := isP_n hW hx
      obtain ⟨d, hd, rfl⟩ := isDd_n hW hy
      rw [m216 hW hd, bI_s, nI_clamp (by omega), nI_clamp (by omega), bit_at (show p < 32 by omega)]
      unfold whoK
      rw [bit_mk (by omega) (by omega), decide_eq_true hp, Bool.true_and]
    · rw [if_neg hy, if_neg hy, if_pos nI_0]
  · rw [if_neg hx, if_neg hx, if_pos nI_0]
theorem m221 (hW : WF (I 230)) : am_cal (g + 4) 221 [.ref 229, .int x, .int y] (mS I J) = some (some (.int (v_apart (I 230) x y)), mS I J) := by
  have h12 := hW.nP.1
  have h10 := hW.nD.1
  rw [c_221 lc_229, m153 hW, bI_s, m153 hW, bI_s]
  unfold v_apart
  by_cases hx : isP (I 230) x
  · by_cases hy : isP (I 230) y
    · rw [if_pos hx, if_pos hy, if_pos hx, if_pos hy, if_neg (by decide), if_neg (by decide)]
      obtain ⟨p, hp, rfl⟩ := isP_n hW hx
      obtain ⟨q, hq, rfl⟩ := isP_n hW hy
      rw [nI_clamp (show p < 2 ^ 31 by omega), nI_clamp (show q < 2 ^ 31 by omega)]
      have lp : ∀ k, k ≤ nD (I 230) → am_X (am_cal (g + 3)) 221 19 [.ref 229, .int (nI p), .int (nI q), .int (apU (I 230) p q (nD (I 230) - k) k), .int (nI k - nI 1), .null] [] (mS I J) = some (some (.int (apU (I 230) p q (nD (I 230)) 0)), mS I J) := by
        intro k
        induction k with
        | zero =>
          intro _
          rw [e_221_19]
          simp only [neg1, bq_s, mS_c, mS_l, mS_r, mS_i, mS_j, mS_pi, mS_pj, lt_st, bq_s, bV_s, bI_s, bJ_s, bA_s, nz_0, nc_0, nz_1, nc_1, nz_2, nc_2, nz_3, nc_3, nz_4, nc_4, nz_5, nc_5, nz_6, nc_6, nz_7, nc_7, nz_8, nc_8, nz_9, nc_9, nz_10, nc_10, nz_11, nc_11, nz_12, nc_12, if_true, if_false, eq_self, true_and, and_true, false_or, or_false, true_or, or_true, false_and, and_false, not_true, not_false_eq_true, ne_eq, ite_self, ite_not, ↓reduceIte, n_101, n_107, n_11, Nat.sub_zero]
        | succ k ih =>
          intro hk
          have ih := ih (by omega)
          rw [show nD (I 230) - k = (nD (I 230) - (k + 1)) + 1 by omega, apU_s] at ih
          rw [e_221_19, n_pred]
          simp only [n_ge0 (show k < 2 ^ 31 by omega), m216 hW (show k < nD (I 230) by omega), bit_at (show p < 32 by omega), bit_at (show q < 32 by omega), bq_s, mS_c, mS_l, mS_r, mS_i, mS_j, mS_pi, mS_pj, lt_st, bq_s, bV_s, bI_s, bJ_s, bA_s, nz_0, nc_0, nz_1, nc_1, nz_2, nc_2, nz_3, nc_3, nz_4, nc_4, nz_5, nc_5, nz_6, nc_6, nz_7, nc_7, nz_8, nc_8, nz_9, nc_9, nz_10, nc_10, nz_11, nc_11, nz_12, nc_12, if_true, if_false, eq_self, true_and, and_true, false_or, or_false, true_or, or_true, false_and, and_false, not_true, not_false_eq_true, ne_eq, ite_self, ite_not, ↓reduceIte, n_101, n_107, n_11]
          have ep : bit (whoK (I 230) k) p = rem (I 230) k p := by unfold whoK; rw [bit_mk (by omega) (by omega), decide_eq_true hp, Bool.true_and]
          have eq : bit (whoK (I 230) k) q = rem (I 230) k q := by unfold whoK; rw [bit_mk (by omega) (by omega), decide_eq_true hq, Bool.true_and]
          rw [ep, eq]
          cases h1 : rem (I 230) k p <;> cases h2 : rem (I 230) k q <;> rw [h1, h2] at ih <;> simp only [Bool.false_eq_true, Bool.true_eq_false, if_true, if_false, show (nI 0 = nI 1) = False from eq_false (by decide), show (nI 1 = nI 0) = False from eq_false (by decide)] at ih ⊢ <;> exact ih
      simp only [n_lef (show 4 < 546 by decide), lc_229, lr_229_0, lc_230, ll_230, bq_s, mS_c, mS_l, mS_r, mS_i, mS_j, mS_pi, mS_pj, lt_st, bq_s, bV_s, bI_s, bJ_s, bA_s, nz_0, nc_0, nz_1, nc_1, nz_2, nc_2, nz_3, nc_3, nz_4, nc_4, nz_5, nc_5, nz_6, nc_6, nz_7, nc_7, nz_8, nc_8, nz_9, nc_9, nz_10, nc_10, nz_11, nc_11, nz_12, nc_12, if_true, if_false, eq_self, true_and, and_true, false_or, or_false, true_or, or_true, false_and, and_false, not_true, not_false_eq_true, ne_eq, ite_self, ite_not, ↓reduceIte]
      have := lp (nD (I 230)) (Nat.le_refl _)
      rw [Nat.sub_self] at this
      rw [hW.nD.2]
      exact this
    · rw [if_pos hx, if_neg hy, if_pos hx, if_neg hy, if_neg (by decide), if_pos nI_0]
  · rw [if_neg hx, if_neg hx, if_pos nI_0]
theorem m218 (hW : WF (I 230)) (hp : p < nP (I 230)) : ∃ I', F2 236 237 I' I ∧ am_cal (g + 6) 218 [.ref 229, .int (nI p)] (mS I J) = some (some (.int (b2 (cnd (I 230) p))), mS I' J) := by
  have h12 := hW.nP.1
  rw [c_218 lc_229, m154 (by omega), bI_s]
  by_cases ha : isAw (I 230) p
  · obtain ⟨I', hF, hr⟩ := m172 (d := g) (J := J) hW hp
    refine ⟨I', hF, ?_⟩
    rw [if_pos ha, if_neg (by decide), hr, bI_s]
    by_cases hv : isVd (I 230) p
    · rw [if_b2t hv, b2_f (fun h => h.2 hv)]
    · rw [if_b2f hv, b2_t ⟨ha, hv⟩]
  · refine ⟨I, F2.rf, ?_⟩
    rw [if_neg ha, if_pos nI_0, b2_f (fun h => ha h.1)]
theorem m219 (hW : WF (I 230)) (hp : p < nP (I 230)) : am_cal (g + 2) 219 [.ref 229, .int (nI p)] (mS I J) = some (some (.int (if pF (I 230) (bdy (I 230) (nP (I 230)) p) 0 = nI 6 then m9 else nI (bdy (I 230) (nP (I 230)) p))), mS I J) := by
  have h12 := hW.nP.1
  have of : ∀ {p f : Nat}, p < nP (I 230) → f < 10 → am_cal (g + 1) 152 [.ref 229, .int (nI p), .int (nI f)] (mS I J) = some (some (.int (pF (I 230) p f)), mS I J) := fun hp hf => m152 (by omega) hf
  have l9 : am_X (am_cal (g + 1)) 219 2 [.ref 229, .null, .int m9] [] (mS I J) = some (some (.int m9), mS I J) := by
    rw [e_219_2]
    simp only [m9_lt, bq_s, mS_c, mS_l, mS_r, mS_i, mS_j, mS_pi, mS_pj, lt_st, bq_s, bV_s, bI_s, bJ_s, bA_s, nz_0, nc_0, nz_1, nc_1, nz_2, nc_2, nz_3, nc_3, nz_4, nc_4, nz_5, nc_5, nz_6, nc_6, nz_7, nc_7, nz_8, nc_8, nz_9, nc_9, nz_10, nc_10, nz_11, nc_11, nz_12, nc_12, if_true, if_false, eq_self, true_and, and_true, false_or, or_false, true_or, or_true, false_and, and_false, not_true, not_false_eq_true, ne_eq, ite_self, ite_not, ↓reduceIte, n_101, n_107, n_11]
  have lp : ∀ n p, p < nP (I 230) → nP (I 230) - p ≤ n → am_X (am_cal (g + 1)) 219 2 [.ref 229, .null, .int (nI p)] [] (mS I J) = some (some (.int (if pF (I 230) (bdy (I 230) n p) 0 = nI 6 then m9 else nI (bdy (I 230) n p))), mS I J) := by
    intro n
    induction n with
    | zero => intro p h1 h2; omega
    | succ n ih =>
      intro p h1 h2
      rw [e_219_2, bdy_s]
      simp only [n_ge0 (show p < 2 ^ 31 by omega), of h1 (show 0 < 10 by decide), of h1 (show 7 < 10 by decide), bq_s, mS_c, mS_l, mS_r, mS_i, mS_j, mS_pi, mS_pj, lt_st, bq_s, bV_s, bI_s, bJ_s, bA_s, nz_0, nc_0, nz_1, nc_1, nz_2, nc_2, nz_3, nc_3, nz_4, nc_4, nz_5, nc_5, nz_6, nc_6, nz_7, nc_7, nz_8, nc_8, nz_9, nc_9, nz_10, nc_10, nz_11, nc_11, nz_12, nc_12, if_true, if_false, eq_self, true_and, and_true, false_or, or_false, true_or, or_true, false_and, and_false, not_true, not_false_eq_true, ne_eq, ite_self, ite_not, ↓reduceIte, n_101, n_107, n_11]
      rcases WFin hW h1 with e7 | ⟨e0, j, hj, hj2, e7⟩
      · rw [e7, if_pos (show m9 < 0 from by rw [m9_lt]; trivial), l9]
        by_cases h6 : pF (I 230) p 0 = nI 6
        · rw [if_pos h6, if_pos h6]
        · rw [if_neg h6, if_neg h6]
      · rw [e7, if_neg (nI_pos (show j < 2 ^ 31 by omega)), if_pos e0, nI_clamp (by omega)]
        exact ih j hj2 (by omega)
  rw [c_219 lc_229]
  exact lp _ p hp (by omega)
theorem unE_if {hh : Nat} : (if (if pF s hh 0 = nI 6 then m9 else nI hh) < 0 then nI 0 else nI 1 <<< ((if pF s hh 0 = nI 6 then m9 else nI hh) &&& 31)) = if pF s hh 0 = nI 6 then nI 0 else (if nI hh < 0 then nI 0 else nI 1 <<< (nI hh &&& 31)) := by
  by_cases h : pF s hh 0 = nI 6
  · rw [if_pos h, if_pos h, if_pos (by rw [m9_lt]; trivial)]
  · rw [if_neg h, if_neg h]
theorem m220 (hW : WF (I 230)) : ∃ I', F2 236 237 I' I ∧ am_cal (g + 7) 220 [.ref 229, .int y] (mS I J) = some (some (.int (v_blame (I 230) y)), mS I' J) := by
  have h12 := hW.nP.1
  have h10 := hW.nD.1
  rw [c_220 lc_229, m214 hW, bI_s]
  unfold v_blame
  by_cases hy : isDd (I 230) y
  · rw [if_pos hy, if_pos hy, if_neg (by decide)]
    obtain ⟨d, hd, rfl⟩ := isDd_n hW hy
    obtain ⟨⟨p, hp, e0⟩, _⟩ := WFnd hW hd
    have e0' : I 230 (244 + 2 * d) = nI p := e0
    have a0 : nI 244 + nI 2 * nI d = nI (244 + 2 * d) := by rw [pk_mul, nI_add]
    have i0c : (nI (244 + 2 * d)).toNatClampNeg = 244 + 2 * d := nI_clamp (by omega)
    have i0z : (nI (244 + 2 * d) < 0) = False := n_ge0 (by omega)
    have i0l : (546 ≤ 244 + 2 * d) = False := n_lef (by omega)
    have m1 : (Int32.ofInt (-1) < 0) = True := eq_true (by decide +kernel)
    obtain ⟨I1, hF, hr⟩ := m199 (d := g + 2) (J := J) (key := nI 2) hW hp
    have f0 := hF 230 (by decide) (by decide)
    simp only [a0, i0c, i0z, i0l, e0', hr, lc_229, lr_229_0, lc_230, ll_230, bq_s, mS_c, mS_l, mS_r, mS_i, mS_j, mS_pi, mS_pj, lt_st, bq_s, bV_s, bI_s, bJ_s, bA_s, nz_0, nc_0, nz_1, nc_1, nz_2, nc_2, nz_3, nc_3, nz_4, nc_4, nz_5, nc_5, nz_6, nc_6, nz_7, nc_7, nz_8, nc_8, nz_9, nc_9, nz_10, nc_10, nz_11, nc_11, nz_12, nc_12, if_true, if_false, eq_self, true_and, and_true, false_or, or_false, true_or, or_true, false_and, and_false, not_true, not_false_eq_true, ne_eq, ite_self, ite_not, ↓reduceIte]
    have hdc : (nI d).toNatClampNeg = d := nI_clamp (by omega)
    simp only [hdc, e0, nI_clamp (show p < 2 ^ 31 by omega)]
    have hW1 : WF (I1 230) := by rw [f0]; exact hW
    rcases lawV_23 hW (k := 2) (Or.inl rfl) (f := fct (I 230 0) (I 230 1) (nI 0) (pF (I 230) p 0) (nI 0) (nI 0)) with hv | hv | hv
    · refine ⟨I1, hF, ?_⟩
      have hb := bdy_lt hW (nP (I 230)) p hp
      rw [hv, if_neg (show ¬ nI 0 = nI 1 by decide), if_pos nI_0, if_neg (show ¬ nI 0 = nI 1 by decide), if_neg (show ¬ nI 0 = nI 2 by decide), m219 hW1 (by rw [f0]; exact hp), bI_s, f0, r_ite, unE_if, if_neg (nI_pos (show bdy (I 230) (nP (I 230)) p < 2 ^ 31 by omega))]
      rfl
    · rw [hv, if_pos rfl, if_pos rfl, m216 hW1 (by rw [f0]; exact hd), bI_s, f0]
      have lp : ∀ (n q : Nat) (t : Int32) (I2 : mI), F2 236 237 I2 I → q + n = nP (I 230) → (∀ r, r < 32 → bit t r = (decide (r < nP (I 230)) && (rem (I 230) d r && (!decide (r < q) || cnB (I 230) r)))) → ∃ I', F2 236 237 I' I ∧ am_X (am_cal (g + 6)) 220 29 [.ref 229, .null, .null, .null, .int t, .int (nI q)] [] (mS I2 J) = some (some (.int (mkS (fun q => cnB (I 230) q && rem (I 230) d q) (nP (I 230)))), mS I' J) := by
        intro n
        induction n with
        | zero =>
          intro q t I2 h2 hq ht
          refine ⟨I2, h2, ?_⟩
          have f2 := h2 230 (by decide) (by decide)
          rw [e_220_29]
          simp only [f2, hW.nP.2, n_lt (show q < 2 ^ 31 by omega) (show nP (I 230) < 2 ^ 31 by omega), n_ltf (show nP (I 230) ≤ q by omega), n_lef (show 1 < 546 by decide), lc_229, lr_229_0, lc_230, ll_230, bq_s, mS_c, mS_l, mS_r, mS_i, mS_j, mS_pi, mS_pj, lt_st, bq_s, bV_s, bI_s, bJ_s, bA_s, nz_0, nc_0, nz_1, nc_1, nz_2, nc_2, nz_3, nc_3, nz_4, nc_4, nz_5, nc_5, nz_6, nc_6, nz_7, nc_7, nz_8, nc_8, nz_9, nc_9, nz_10, nc_10, nz_11, nc_11, nz_12, nc_12, if_true, if_false, eq_self, true_and, and_true, false_or, or_false, true_or, or_true, false_and, and_false, not_true, not_false_eq_true, ne_eq, ite_self, ite_not, ↓reduceIte]
          refine congrArg (fun z => some (some (Value.int z), mS I2 J)) (bit_ext fun r hr => ?_)
          rw [ht r hr, bit_mk (by omega) hr]
          by_cases h : r < nP (I 230)
          · rw [decide_eq_true h, decide_eq_true (show r < q by omega), Bool.not_true, Bool.false_or, Bool.true_and, Bool.true_and, Bool.and_comm]
          · rw [decide_eq_false h, Bool.false_and, Bool.false_and]
        | succ n ih =>
          intro q t I2 h2 hq ht
          have f2 := h2 230 (by decide) (by decide)
          obtain ⟨I3, h3, hr3⟩ := m218 (g := g) (J := J) (I := I2) (p := q) (by rw [f2]; exact hW) (by rw [f2]; omega)
          rw [f2] at hr3
          rw [e_220_29]
          simp only [f2, hW.nP.2, n_lt (show q < 2 ^ 31 by omega) (show nP (I 230) < 2 ^ 31 by omega), n_ltt (show q < nP (I 230) by omega), n_lef (show 1 < 546 by decide), hr3, nI_add, lc_229, lr_229_0, lc_230, ll_230, bq_s, mS_c, mS_l, mS_r, mS_i, mS_j, mS_pi, mS_pj, lt_st, bq_s, bV_s, bI_s, bJ_s, bA_s, nz_0, nc_0, nz_1, nc_1, nz_2, nc_2, nz_3, nc_3, nz_4, nc_4, nz_5, nc_5, nz_6, nc_6, nz_7, nc_7, nz_8, nc_8, nz_9, nc_9, nz_10, nc_10, nz_11, nc_11, nz_12, nc_12, if_true, if_false, eq_self, true_and, and_true, false_or, or_false, true_or, or_true, false_and, and_false, not_true, not_false_eq_true, ne_eq, ite_self, ite_not, ↓reduceIte]
          have gen : ∀ (u : Int32), (∀ r, r < 32 → bit u r = (!decide (q = r) || cnB (I 230) r)) → ∀ r, r < 32 → bit (t &&& u) r = (decide (r < nP (I 230)) && (rem (I 230) d r && (!decide (r < q + 1) || cnB (I 230) r))) := fun u hu r hr => by
            rw [bit_and, ht r hr, hu r hr]
            by_cases e : q = r
            · subst e
              rw [decide_eq_true rfl, decide_eq_false (Nat.lt_irrefl q), decide_eq_true (show q < q + 1 by omega)]
              cases decide (q < nP (I 230)) <;> cases rem (I 230) d q <;> cases cnB (I 230) q <;> rfl
            · rw [decide_eq_false e]
              by_cases h : r < q
              · rw [decide_eq_true h, decide_eq_true (show r < q + 1 by omega)]
                cases decide (r < nP (I 230)) <;> cases rem (I 230) d r <;> cases cnB (I 230) r <;> rfl
              · rw [decide_eq_false h, decide_eq_false (show ¬ r < q + 1 by omega)]
                cases decide (r < nP (I 230)) <;> cases rem (I 230) d r <;> cases cnB (I 230) r <;> rfl
          by_cases hc : cnd (I 230) q
          · rw [if_b2t hc]
            exact ih (q + 1) _ I3 (h2.tr h3) (by omega) (gen _ fun r hr => by
              rw [bit_m1 hr]
              by_cases e : q = r
              · subst e; rw [cnB_t hc, Bool.or_true]
              · rw [decide_eq_false e]; rfl)
          · rw [if_b2f hc]
            exact ih (q + 1) _ I3 (h2.tr h3) (by omega) (gen _ fun r hr => by
              rw [bit_xor, bit_m1 hr, bit_one q (by omega) r hr]
              by_cases e : q = r
              · subst e; rw [cnB_f hc, decide_eq_true rfl]; rfl
              · rw [decide_eq_false e]; rfl)
      exact lp (nP (I 230)) 0 _ I1 hF (by omega) (fun r hr => by
        unfold whoK
        rw [bit_mk (by omega) hr, decide_eq_false (Nat.not_lt_zero r), Bool.not_false, Bool.true_or, Bool.and_true])
    · refine ⟨I1, hF, ?_⟩
      have hb := rt_lt hW (nP (I 230)) p hp
      have hroot := m171 (d := g + 4) (J := J) (I := I1) hW1 (by rw [f0]; exact hp)
      rw [f0] at hroot
      have hk := m152 (d := g + 5) (J := J) (I := I1) (p := rt (I 230) (nP (I 230)) p) (f := 0) (by omega) (by decide)
      rw [f0] at hk
      rw [hv, if_neg (show ¬ nI 2 = nI 1 by decide), if_neg (show ¬ nI 2 = 0 by decide), if_neg (show ¬ nI 2 = nI 1 by decide), if_pos (show nI 2 = nI 2 from rfl), hroot, bI_s, hk, bI_s]
      unfold unE
      by_cases h6 : pF (I 230) (rt (I 230) (nP (I 230)) p) 0 = nI 6
      · rw [if_pos h6, if_pos h6, if_pos (of_eq_true m1)]
      · rw [if_neg h6, if_neg h6, hroot, bI_s, if_neg (nI_pos (by omega))]
  · exact ⟨I, F2.rf, by rw [if_neg hy, if_neg hy, if_pos nI_0]⟩
end C2
