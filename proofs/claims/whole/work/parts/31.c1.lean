/-! ===== deeds: who remembers ===== -/
def remF (s : Rw) (d : Nat) : Nat → Nat → Bool
  | 0, _ => false
  | n + 1, p => decide (dF s d 0 = nI p) || (if isCp s p then !decide (pF s p 5 < dF s d 1) && (remF s d n (pF s p 2).toNatClampNeg && (!decide (pF s p 1 = nI 3) || decide (d % 2 = 0))) else if pF s p 1 = nI 4 then remF s d n (pF s p 2).toNatClampNeg || remF s d n (pF s p 3).toNatClampNeg else false)
def rem (s : Rw) (d p : Nat) : Bool := remF s d (p + 1) p
def mkS (f : Nat → Bool) : Nat → Int32
  | 0 => nI 0
  | n + 1 => if f n then mkS f n ||| (nI 1 <<< (nI n &&& 31)) else mkS f n
theorem mkS_s {f : Nat → Bool} {n : Nat} : mkS f (n + 1) = if f n then mkS f n ||| (nI 1 <<< (nI n &&& 31)) else mkS f n := rfl
theorem bit_mk {f : Nat → Bool} : ∀ {n r : Nat}, n ≤ 32 → r < 32 → bit (mkS f n) r = (decide (r < n) && f r)
  | 0, r, _, _ => by rw [decide_eq_false (by omega), Bool.false_and]; exact bit_n0
  | n + 1, r, hn, hr => by
    rw [mkS_s]
    by_cases hf : f n = true
    · rw [if_pos hf, bit_or, bit_mk (by omega) hr, bit_one n (by omega) r hr]
      by_cases e : n = r
      · subst e
        rw [decide_eq_true rfl, decide_eq_true (show n < n + 1 by omega), Bool.or_true, hf]
        rfl
      · rw [decide_eq_false e, Bool.or_false]
        by_cases h : r < n
        · rw [decide_eq_true h, decide_eq_true (show r < n + 1 by omega)]
        · rw [decide_eq_false h, decide_eq_false (show ¬ r < n + 1 by omega)]
    · rw [if_neg hf, bit_mk (by omega) hr]
      by_cases e : n = r
      · subst e
        rw [decide_eq_false (show ¬ n < n by omega), decide_eq_true (show n < n + 1 by omega), Bool.false_and, Bool.true_and]
        exact (Bool.eq_false_iff.mpr hf).symm
      · by_cases h : r < n
        · rw [decide_eq_true h, decide_eq_true (show r < n + 1 by omega)]
        · rw [decide_eq_false h, decide_eq_false (show ¬ r < n + 1 by omega)]
def knw (s : Rw) (p : Nat) : Int32 := mkS (fun d => rem s d p) (nD s)
def whoK (s : Rw) (d : Nat) : Int32 := mkS (fun p => rem s d p) (nP s)
/-- so far: a set, and the deeds of one's own -/
def accD (s : Rw) (p : Nat) (t : Int32) : Nat → Int32
  | 0 => t
  | k + 1 => if dF s k 0 = nI p then accD s p t k ||| (nI 1 <<< (nI k &&& 31)) else accD s p t k
theorem bit_acc {s : Rw} {p : Nat} {t : Int32} : ∀ {k r : Nat}, k ≤ 32 → r < 32 → bit (accD s p t k) r = (bit t r || (decide (r < k) && decide (dF s r 0 = nI p)))
  | 0, r, _, _ => by rw [decide_eq_false (by omega), Bool.false_and, Bool.or_false]; rfl
  | k + 1, r, hk, hr => by
    unfold accD
    by_cases hf : dF s k 0 = nI p
    · rw [if_pos hf, bit_or, bit_acc (by omega) hr, bit_one k (by omega) r hr]
      by_cases e : k = r
      · subst e
        rw [decide_eq_true rfl, decide_eq_true (show k < k + 1 by omega), decide_eq_true hf, Bool.or_true, Bool.and_self, Bool.or_true]
      · rw [decide_eq_false e, Bool.or_false]
        by_cases h : r < k
        · rw [decide_eq_true h, decide_eq_true (show r < k + 1 by omega)]
        · rw [decide_eq_false h, decide_eq_false (show ¬ r < k + 1 by omega)]
    · rw [if_neg hf, bit_acc (by omega) hr]
      by_cases e : k = r
      · subst e
        rw [decide_eq_false (show ¬ k < k by omega), decide_eq_false hf, Bool.and_false, Bool.and_false]
      · by_cases h : r < k
        · rw [decide_eq_true h, decide_eq_true (show r < k + 1 by omega)]
        · rw [decide_eq_false h, decide_eq_false (show ¬ r < k + 1 by omega)]
theorem b341 : ∀ r, r < 32 → bit (nI 341) r = (decide (r < 10) && decide (r % 2 = 0)) := by decide +kernel
section C1
variable {I : mI} {J : mJ} {w p q e c d l b : Nat} {s : Rw} {x y key day : Int32}
theorem remF_s {n : Nat} : remF s d (n + 1) p = (decide (dF s d 0 = nI p) || (if isCp s p then !decide (pF s p 5 < dF s d 1) && (remF s d n (pF s p 2).toNatClampNeg && (!decide (pF s p 1 = nI 3) || decide (d % 2 = 0))) else if pF s p 1 = nI 4 then remF s d n (pF s p 2).toNatClampNeg || remF s d n (pF s p 3).toNatClampNeg else false)) := rfl
theorem WFcq (h : WF s) (hp : p < nP s) (hc : isCp s p) : ∃ q, q < p ∧ pF s p 2 = nI q := by
  rcases h.fr hp with ⟨_, h1, _⟩ | ⟨q, hq, h2, _⟩
  · rcases hc with hc | hc | hc <;> rw [h1] at hc <;> exact absurd hc (by decide)
  · exact ⟨q, hq, h2⟩
theorem WFjq (h : WF s) (hp : p < nP s) (hc : pF s p 1 = nI 4) : ∃ q r, q < p ∧ r < p ∧ pF s p 2 = nI q ∧ pF s p 3 = nI r ∧ q ≠ r := by
  rcases (h.per hp).1 with ⟨h1, _⟩ | ⟨h1, _⟩ | ⟨_, ⟨q, r, hq, hr, hn, h2, h3, _⟩, _⟩
  · rw [h1] at hc; exact absurd hc (by decide)
  · rcases h1 with h1 | h1 | h1 <;> rw [h1] at hc <;> exact absurd hc (by decide)
  · exact ⟨q, r, hq, hr, h2, h3, hn⟩
theorem remF_up (hW : WF s) : ∀ (n p : Nat), p < nP s → p < n → remF s d n p = remF s d (n + 1) p
  | 0, p, _, h => by omega
  | n + 1, p, hp, h => by
    have h12 := hW.nP.1
    rw [remF_s, remF_s (n := n + 1)]
    by_cases hc : isCp s p
    · obtain ⟨q, hq, e⟩ := WFcq hW hp hc
      rw [if_pos hc, if_pos hc, e, nI_clamp (by omega), remF_up hW n q (by omega) (by omega)]
    · rw [if_neg hc, if_neg hc]
      by_cases h4 : pF s p 1 = nI 4
      · obtain ⟨q, r, hq, hr, e, e2, _⟩ := WFjq hW hp h4
        rw [if_pos h4, if_pos h4, e, e2, nI_clamp (by omega), nI_clamp (by omega), remF_up hW n q (by omega) (by omega), remF_up hW n r (by omega) (by omega)]
      · rw [if_neg h4, if_neg h4]
theorem remF_fix (hW : WF s) (hp : p < nP s) : ∀ n, p < n → remF s d n p = rem s d p := by
  intro n hn
  have : ∀ k, remF s d (p + 1 + k) p = rem s d p := by
    intro k
    induction k with
    | zero => rfl
    | succ k ih => rw [← ih, show p + 1 + (k + 1) = (p + 1 + k) + 1 by omega, ← remF_up hW _ p hp (by omega)]
  rw [← this (n - (p + 1)), show p + 1 + (n - (p + 1)) = n by omega]
theorem rem_c (hW : WF s) (hp : p < nP s) (hc : isCp s p) (hq : q < p) (e : pF s p 2 = nI q) : rem s d p = (decide (dF s d 0 = nI p) || (!decide (pF s p 5 < dF s d 1) && (rem s d q && (!decide (pF s p 1 = nI 3) || decide (d % 2 = 0))))) := by
  have h12 := hW.nP.1
  unfold rem
  rw [remF_s, if_pos hc, e, nI_clamp (by omega), remF_fix hW (by omega) p hq]
  rfl
theorem rem_j (hW : WF s) (hp : p < nP s) (hc : pF s p 1 = nI 4) {r : Nat} (hq : q < p) (hr : r < p) (e : pF s p 2 = nI q) (e2 : pF s p 3 = nI r) : rem s d p = (decide (dF s d 0 = nI p) || (rem s d q || rem s d r)) := by
  have h12 := hW.nP.1
  have hn : ¬ isCp s p := fun h => by rcases h with h | h | h <;> rw [hc] at h <;> exact absurd h (by decide)
  unfold rem
  rw [remF_s, if_neg hn, if_pos hc, e, e2, nI_clamp (by omega), nI_clamp (by omega), remF_fix hW (by omega) p hq, remF_fix hW (by omega) p hr]
  rfl
theorem rem_o (hc : ¬ isCp s p) (h4 : ¬ pF s p 1 = nI 4) : rem s d p = decide (dF s d 0 = nI p) := by
  unfold rem
  rw [remF_s, if_neg hc, if_neg h4, Bool.or_false]
theorem WFnd (h : WF s) (hd : d < nD s) : (∃ p, p < nP s ∧ dF s d 0 = nI p) ∧ (∃ y, y ≤ 999 ∧ dF s d 1 = nI y) := h.2.2.2.2.2.2.1 d hd
/-! the model: who remembers a deed -/
theorem m216 (hW : WF (I 230)) (hd : d < nD (I 230)) {g : Nat} : am_cal (g + 3) 216 [.ref 229, .int (nI d)] (mS I J) = some (some (.int (whoK (I 230) d)), mS I J) := by
  have h12 := hW.nP.1
  have h10 := hW.nD.1
  have a0 : nI 244 + nI 2 * nI d = nI (244 + 2 * d) := by rw [pk_mul, nI_add]
  have a1 : nI (244 + 2 * d) + nI 1 = nI (244 + 2 * d + 1) := nI_add _ _
  have i0c : (nI (244 + 2 * d)).toNatClampNeg = 244 + 2 * d := nI_clamp (by omega)
  have i0z : (nI (244 + 2 * d) < 0) = False := n_ge0 (by omega)
  have i0l : (546 ≤ 244 + 2 * d) = False := n_lef (by omega)
  have i1c : (nI (244 + 2 * d + 1)).toNatClampNeg = 244 + 2 * d + 1 := nI_clamp (by omega)
  have i1z : (nI (244 + 2 * d + 1) < 0) = False := n_ge0 (by omega)
  have i1l : (546 ≤ 244 + 2 * d + 1) = False := n_lef (by omega)
  have of : ∀ {p f : Nat}, p < nP (I 230) → f < 10 → am_cal (g + 2) 152 [.ref 229, .int (nI p), .int (nI f)] (mS I J) = some (some (.int (pF (I 230) p f)), mS I J) := fun hp hf => m152 (by omega) hf
  have rm : nI d - nI d / nI 2 * nI 2 = nI (d % 2) := pk_rem (by omega) (by omega) (by omega)
  have lp : ∀ n p, p + n = nP (I 230) → am_X (am_cal (g + 2)) 216 4 [.ref 229, .int (nI d), .int (mkS (fun q => rem (I 230) d q) p), .int (nI p), .null, .null] [] (mS I J) = some (some (.int (whoK (I 230) d)), mS I J) := by
    intro n
    induction n with
    | zero =>
      intro p hp
      rw [e_216_4]
      simp only [hW.nP.2, n_lt (show p < 2 ^ 31 by omega) (show nP (I 230) < 2 ^ 31 by omega), n_ltf (show nP (I 230) ≤ p by omega), n_lef (show 1 < 546 by decide), lc_229, lr_229_0, lc_230, ll_230, bq_s, mS_c, mS_l, mS_r, mS_i, mS_j, mS_pi, mS_pj, lt_st, bq_s, bV_s, bI_s, bJ_s, bA_s, nz_0, nc_0, nz_1, nc_1, nz_2, nc_2, nz_3, nc_3, nz_4, nc_4, nz_5, nc_5, nz_6, nc_6, nz_7, nc_7, nz_8, nc_8, nz_9, nc_9, nz_10, nc_10, nz_11, nc_11, nz_12, nc_12, if_true, if_false, eq_self, true_and, and_true, false_or, or_false, true_or, or_true, false_and, and_false, not_true, not_false_eq_true, ne_eq, ite_self, ite_not, ↓reduceIte]
      rw [show p = nP (I 230) by omega]
      rfl
    | succ n ih =>
      intro p hp
      have hpn : p < nP (I 230) := by omega
      have l101 : ∀ t, t = b2 (rem (I 230) d p = true) → am_X (am_cal (g + 2)) 216 101 [.ref 229, .int (nI d), .int (mkS (fun q => rem (I 230) d q) p), .int (nI p), .null, .int t] [] (mS I J) = some (some (.int (whoK (I 230) d)), mS I J) := by
        intro t ht
        rw [e_216_101, ht]
        have ih := ih (p + 1) (by omega)
        rw [mkS_s] at ih
        cases hr : rem (I 230) d p
        · rw [if_b2f (by decide)]
          rw [hr, if_neg (by decide)] at ih
          simp only [nI_add, or_0, ih, lc_229, lr_229_0, lc_230, ll_230, bq_s, mS_c, mS_l, mS_r, mS_i, mS_j, mS_pi, mS_pj, lt_st, bq_s, bV_s, bI_s, bJ_s, bA_s, nz_0, nc_0, nz_1, nc_1, nz_2, nc_2, nz_3, nc_3, nz_4, nc_4, nz_5, nc_5, nz_6, nc_6, nz_7, nc_7, nz_8, nc_8, nz_9, nc_9, nz_10, nc_10, nz_11, nc_11, nz_12, nc_12, if_true, if_false, eq_self, true_and, and_true, false_or, or_false, true_or, or_true, false_and, and_false, not_true, not_false_eq_true, ne_eq, ite_self, ite_not, ↓reduceIte]
        · rw [if_b2t rfl]
          rw [hr, if_pos rfl] at ih
          simp only [nI_add, ih, lc_229, lr_229_0, lc_230, ll_230, bq_s, mS_c, mS_l, mS_r, mS_i, mS_j, mS_pi, mS_pj, lt_st, bq_s, bV_s, bI_s, bJ_s, bA_s, nz_0, nc_0, nz_1, nc_1, nz_2, nc_2, nz_3, nc_3, nz_4, nc_4, nz_5, nc_5, nz_6, nc_6, nz_7, nc_7, nz_8, nc_8, nz_9, nc_9, nz_10, nc_10, nz_11, nc_11, nz_12, nc_12, if_true, if_false, eq_self, true_and, and_true, false_or, or_false, true_or, or_true, false_and, and_false, not_true, not_false_eq_true, ne_eq, ite_self, ite_not, ↓reduceIte]
      have t0e : b2 (dF (I 230) d 0 = nI p) = b2 (decide (dF (I 230) d 0 = nI p) = true) := b2_iff ⟨fun h => decide_eq_true h, fun h => of_decide_eq_true h⟩
      have bq : ∀ q, q < p → bit (mkS (fun q => rem (I 230) d q) p) q = rem (I 230) d q := fun q hq => by
        rw [bit_mk (by omega) (by omega), decide_eq_true hq, Bool.true_and]
      have bt : ∀ q, q < p → ∀ A B : am_R, (if mkS (fun q => rem (I 230) d q) p >>> (nI q &&& 31) &&& nI 1 = nI 1 then A else B) = if rem (I 230) d q = true then A else B := fun q hq A B => by
        simp only [bit_at1 (show q < 32 by omega), bq q hq]
      have b1 : b2 True = nI 1 := b2_t trivial
      have l28 : ∀ x4 : Int32, x4 = pF (I 230) p 2 → am_X (am_cal (g + 2)) 216 28 [.ref 229, .int (nI d), .int (mkS (fun q => rem (I 230) d q) p), .int (nI p), .int x4, .null] [.int (b2 (dF (I 230) d 0 = nI p))] (mS I J) = some (some (.int (whoK (I 230) d)), mS I J) := by
        intro x4 hx4
        rw [e_216_28, m155 (by omega), bI_s]
        by_cases hc : isCp (I 230) p
        · rw [if_pos hc, if_neg (by decide)]
          obtain ⟨q, hq, e2⟩ := WFcq hW hpn hc
          have hre := rem_c (d := d) hW hpn hc hq e2
          by_cases hdo : dF (I 230) d 0 = nI p
          · rw [if_b2t hdo, e_216_70]
            exact l101 _ (by rw [b2_t]; rw [hre, decide_eq_true hdo, Bool.true_or])
          · rw [if_b2f hdo, of hpn (by decide), bI_s]
            rw [decide_eq_false hdo, Bool.false_or] at hre
            have hd1 : I 230 (244 + 2 * d + 1) = dF (I 230) d 1 := rfl
            simp only [a0, a1, i1c, i1z, i1l, hd1, lc_229, lr_229_0, lc_230, ll_230, bq_s, mS_c, mS_l, mS_r, mS_i, mS_j, mS_pi, mS_pj, lt_st, bq_s, bV_s, bI_s, bJ_s, bA_s, nz_0, nc_0, nz_1, nc_1, nz_2, nc_2, nz_3, nc_3, nz_4, nc_4, nz_5, nc_5, nz_6, nc_6, nz_7, nc_7, nz_8, nc_8, nz_9, nc_9, nz_10, nc_10, nz_11, nc_11, nz_12, nc_12, if_true, if_false, eq_self, true_and, and_true, false_or, or_false, true_or, or_true, false_and, and_false, not_true, not_false_eq_true, ne_eq, ite_self, ite_not, ↓reduceIte]
            by_cases hm : pF (I 230) p 5 < dF (I 230) d 1
            · rw [if_pos hm, e_216_70]
              exact l101 _ (by rw [b2_f]; rw [hre, decide_eq_true hm, Bool.not_true, Bool.false_and]; decide)
            · rw [if_neg hm, hx4, e2, bt q hq]
              rw [decide_eq_false hm] at hre
              cases hrq : rem (I 230) d q
              · rw [if_neg (by decide), e_216_70]
                exact l101 _ (by rw [b2_f]; rw [hre, hrq, Bool.false_and, Bool.and_false]; decide)
              · rw [if_pos rfl, of hpn (by decide), bI_s]
                rw [hrq] at hre
                by_cases h3 : pF (I 230) p 1 = nI 3
                · rw [if_pos h3, if_neg (show ¬ nI 2 = 0 by decide), rm]
                  rw [decide_eq_true h3] at hre
                  by_cases hev : d % 2 = 0
                  · rw [hev, if_pos nI_0, e_216_70]
                    exact l101 _ (by rw [b2_t]; rw [hre, decide_eq_true hev]; decide)
                  · rw [if_neg (by rw [show d % 2 = 1 by omega]; decide), e_216_70]
                    exact l101 _ (by rw [b2_f]; rw [hre, decide_eq_false hev]; decide)
                · rw [if_neg h3, e_216_70]
                  exact l101 _ (by rw [b2_t]; rw [hre, decide_eq_false h3]; rfl)
        · rw [if_neg hc, if_pos nI_0, of hpn (by decide), bI_s]
          by_cases h4 : pF (I 230) p 1 = nI 4
          · obtain ⟨q, r, hq, hr, e2, e3, _⟩ := WFjq hW hpn h4
            have hre := rem_j (d := d) hW hpn h4 hq hr e2 e3
            rw [if_pos h4]
            by_cases hdo : dF (I 230) d 0 = nI p
            · rw [if_b2t hdo]
              exact l101 _ (by rw [b2_t]; rw [hre, decide_eq_true hdo, Bool.true_or])
            · rw [decide_eq_false hdo, Bool.false_or] at hre
              rw [if_b2f hdo, hx4, e2, bt q hq]
              cases hrq : rem (I 230) d q
              · rw [if_neg (by decide), of hpn (by decide), bI_s, e3, bt r hr]
                cases hrr : rem (I 230) d r
                · rw [if_neg (by decide)]
                  exact l101 _ (by rw [b2_f]; rw [hre, hrq, hrr]; decide)
                · rw [if_pos rfl]
                  exact l101 _ (by rw [b2_t]; rw [hre, hrq, hrr]; rfl)
              · rw [if_pos rfl]
                exact l101 _ (by rw [b2_t]; rw [hre, hrq, Bool.true_or])
          · rw [if_neg h4]
            exact l101 _ (by rw [t0e, rem_o hc h4])
      rw [e_216_4]
      have hd0 : I 230 (244 + 2 * d) = dF (I 230) d 0 := rfl
      simp only [hW.nP.2, n_lt (show p < 2 ^ 31 by omega) (show nP (I 230) < 2 ^ 31 by omega), n_ltt (show p < nP (I 230) by omega), n_lef (show 1 < 546 by decide), of hpn (show 2 < 10 by decide), a0, i0c, i0z, i0l, hd0, lc_229, lr_229_0, lc_230, ll_230, bq_s, mS_c, mS_l, mS_r, mS_i, mS_j, mS_pi, mS_pj, lt_st, bq_s, bV_s, bI_s, bJ_s, bA_s, nz_0, nc_0, nz_1, nc_1, nz_2, nc_2, nz_3, nc_3, nz_4, nc_4, nz_5, nc_5, nz_6, nc_6, nz_7, nc_7, nz_8, nc_8, nz_9, nc_9, nz_10, nc_10, nz_11, nc_11, nz_12, nc_12, if_true, if_false, eq_self, true_and, and_true, false_or, or_false, true_or, or_true, false_and, and_false, not_true, not_false_eq_true, ne_eq, ite_self, ite_not, ↓reduceIte]
      by_cases hdo : dF (I 230) d 0 = nI p
      · have := l28 _ rfl
        rw [b2_t hdo] at this
        rw [if_pos hdo.symm, this]
      · have := l28 _ rfl
        rw [b2_f hdo] at this
        rw [if_neg (fun h => hdo h.symm), this]
  rw [c_216 lc_229]
  exact lp (nP (I 230)) 0 (by omega)
end C1
