/-! ===== names, numbers, other bytes: the class ===== -/
abbrev ltr (b : Nat) : Prop := 97 ≤ b ∧ b ≤ 122
abbrev dgt (b : Nat) : Prop := 48 ≤ b ∧ b ≤ 57
abbrev Tok : Type := Nat × Nat
def skp (T : Nat → Nat) (n : Nat) : Nat → Nat → Nat
  | 0, a => a
  | f + 1, a => if a < n ∧ T a = 32 then skp T n f (a + 1) else a
def spl (T : Nat → Nat) (n : Nat) : Nat → Nat → Nat
  | 0, e => e
  | f + 1, e => if e < n ∧ ltr (T e) then spl T n f (e + 1) else e
def spd (T : Nat → Nat) (n : Nat) : Nat → Nat → Nat
  | 0, e => e
  | f + 1, e => if e < n ∧ dgt (T e) then spd T n f (e + 1) else e
def lxE (T : Nat → Nat) (n a : Nat) : Nat := if a < n then (if ltr (T a) then spl T n (n - (a + 1)) (a + 1) else if dgt (T a) then spd T n (n - (a + 1)) (a + 1) else a + 1) else a
def lx (T : Nat → Nat) (n e : Nat) : Tok := (skp T n (n - e) e, lxE T n (skp T n (n - e) e))
def tkW (T : Nat → Nat) (n : Nat) (t : Tok) : Int32 := if t.1 < n then (if ltr (T t.1) then Int32.ofInt (-2) else if dgt (T t.1) then (if t.2 - t.1 ≤ 4 then Int32.ofInt (-3) else Int32.ofInt (-4)) else nI (T t.1)) else Int32.ofInt (-1)
def nvU (T : Nat → Nat) (a : Nat) : Nat → Nat
  | 0 => 0
  | k + 1 => nvU T a k * 10 + (T (a + k) - 48)
def nvT (T : Nat → Nat) (t : Tok) : Nat := nvU T t.1 (min 4 (t.2 - t.1))
def TxC (I : mI) (T : Nat → Nat) (n : Nat) : Prop := ∀ k, k < n → I 198 k = sx (T k)
def LxC (I : mI) (T : Nat → Nat) (n : Nat) (t : Tok) : Prop := I 199 2 = nI n ∧ I 199 3 = nI t.1 ∧ I 199 4 = nI t.2 ∧ I 199 5 = tkW T n t ∧ (t.1 < n → dgt (T t.1) → I 199 6 = nI (nvT T t))
/-- only the reader's own numbers differ -/
abbrev FR (I' I : mI) : Prop := ∀ a, a ≠ 199 → I' a = I a
section J2s
variable {I I' : mI} {J : mJ} {d k n q p i c m a e f b : Nat} {x z u v w : Int32} {T : Nat → Nat}
theorem sx_t : ∀ b, b < 256 → (if sx b < nI 97 then nI 0 else if nI 122 < sx b then nI 0 else nI 1) = (if ltr b then nI 1 else nI 0) ∧ (if sx b < nI 48 then nI 0 else if nI 57 < sx b then nI 0 else nI 1) = (if dgt b then nI 1 else nI 0) ∧ (sx b = nI 32 ↔ b = 32) ∧ sx b &&& nI 255 = nI b ∧ (dgt b → sx b = nI b) ∧ (ltr b → sx b = nI b) := by decide +kernel
theorem k31 (hb : b < 256) : am_cal (d + 1) 31 [.int (sx b)] (mS I J) = some (some (.int (if ltr b then nI 1 else nI 0)), mS I J) := by
  rw [c_31, o_if, o_if, (sx_t b hb).1]
theorem k32 (hb : b < 256) : am_cal (d + 1) 32 [.int (sx b)] (mS I J) = some (some (.int (if dgt b then nI 1 else nI 0)), mS I J) := by
  rw [c_32, o_if, o_if, (sx_t b hb).2.1]
theorem skp_le : ∀ f a, a ≤ n → f + a ≤ n → a ≤ skp T n f a ∧ skp T n f a ≤ n
  | 0, a, h, _ => ⟨Nat.le_refl _, h⟩
  | f + 1, a, h, h2 => by
    unfold skp
    by_cases hh : a < n ∧ T a = 32
    · rw [if_pos hh]
      have := skp_le f (a + 1) (by omega) (by omega)
      omega
    · rw [if_neg hh]; omega
theorem spl_le : ∀ f a, a ≤ n → a ≤ spl T n f a ∧ spl T n f a ≤ n
  | 0, a, h => ⟨Nat.le_refl _, h⟩
  | f + 1, a, h => by
    unfold spl
    by_cases hh : a < n ∧ ltr (T a)
    · rw [if_pos hh]
      have := spl_le f (a + 1) (by omega)
      omega
    · rw [if_neg hh]; omega
theorem spd_le : ∀ f a, a ≤ n → a ≤ spd T n f a ∧ spd T n f a ≤ n
  | 0, a, h => ⟨Nat.le_refl _, h⟩
  | f + 1, a, h => by
    unfold spd
    by_cases hh : a < n ∧ dgt (T a)
    · rw [if_pos hh]
      have := spd_le f (a + 1) (by omega)
      omega
    · rw [if_neg hh]; omega
theorem lxE_le (h : a ≤ n) : a ≤ lxE T n a ∧ lxE T n a ≤ n ∧ (a < n → a < lxE T n a) := by
  unfold lxE
  by_cases h1 : a < n
  · rw [if_pos h1]
    have h2 := spl_le (T := T) (n := n) (n - (a + 1)) (a + 1) (by omega)
    have h3 := spd_le (T := T) (n := n) (n - (a + 1)) (a + 1) (by omega)
    split
    · omega
    · split <;> omega
  · rw [if_neg h1]; omega
theorem lx_le (h : e ≤ n) : e ≤ (lx T n e).1 ∧ (lx T n e).1 ≤ (lx T n e).2 ∧ (lx T n e).2 ≤ n ∧ ((lx T n e).1 < n → (lx T n e).1 < (lx T n e).2) := by
  have h1 := skp_le (T := T) (n := n) (n - e) e h (by omega)
  have h2 := lxE_le (T := T) (n := n) h1.2
  unfold lx
  exact ⟨h1.1, h2.1, h2.2.1, h2.2.2⟩
theorem spl_s : spl T n (f + 1) e = if e < n ∧ ltr (T e) then spl T n f (e + 1) else e := rfl
/-- the letters of a name -/
theorem e27l (hT : okT T n) : ∀ f e (I : mI), f + e = n → TxC I T n → I 199 2 = nI n → I 199 4 = nI e → am_X (am_cal (d + 1)) 27 46 [.ref 199] [] (mS I J) = some (none, mS (wI I 199 4 (nI (spl T n f e))) J) := by
  have hn := hT.1
  intro f
  induction f with
  | zero =>
    intro e I hf hX h2 h4
    have : wI I 199 4 (nI (spl T n 0 e)) = I := by
      funext c j
      unfold wI
      by_cases h : c = 199 ∧ j = 4
      · rw [if_pos h, h.1, h.2, h4]; rfl
      · rw [if_neg h]
    rw [this, e_27_46]
    simp only [lc_199, h2, h4, n_lt (show e < 2 ^ 31 by omega) (show n < 2 ^ 31 by omega), eq_false (show ¬ e < n by omega), bq_s, mS_c, mS_l, mS_r, mS_i, mS_j, mS_pi, mS_pj, lt_st, bq_s, bV_s, bI_s, bJ_s, bA_s, nz_0, nc_0, nz_1, nc_1, nz_2, nc_2, nz_3, nc_3, nz_4, nc_4, nz_5, nc_5, nz_6, nc_6, nz_7, nc_7, nz_8, nc_8, nz_9, nc_9, nz_10, nc_10, nz_11, nc_11, nz_12, nc_12, if_true, if_false, eq_self, true_and, and_true, false_or, or_false, true_or, or_true, false_and, and_false, not_true, not_false_eq_true, ne_eq, ite_self, ite_not, ↓reduceIte, n_101, n_107, n_11]
  | succ f ih =>
    intro e I hf hX h2 h4
    have i0c : (nI (e)).toNatClampNeg = e := nI_clamp (by omega)
    have i0z : (nI (e) < 0) = False := n_ge0 (by omega)
    have i0l : (200 ≤ e) = False := n_lef (by omega)
    have hb := hT.2 e (by omega)
    rw [e_27_46]
    simp only [lc_199, lr_199_1, lc_198, ll_198, h2, h4, i0c, i0z, i0l, hX e (by omega), k31 hb, n_lt (show e < 2 ^ 31 by omega) (show n < 2 ^ 31 by omega), eq_true (show e < n by omega), nI_add, bq_s, mS_c, mS_l, mS_r, mS_i, mS_j, mS_pi, mS_pj, lt_st, bq_s, bV_s, bI_s, bJ_s, bA_s, nz_0, nc_0, nz_1, nc_1, nz_2, nc_2, nz_3, nc_3, nz_4, nc_4, nz_5, nc_5, nz_6, nc_6, nz_7, nc_7, nz_8, nc_8, nz_9, nc_9, nz_10, nc_10, nz_11, nc_11, nz_12, nc_12, if_true, if_false, eq_self, true_and, and_true, false_or, or_false, true_or, or_true, false_and, and_false, not_true, not_false_eq_true, ne_eq, ite_self, ite_not, ↓reduceIte, n_101, n_107, n_11]
    by_cases hl : ltr (T e)
    · rw [if_pos hl, if_neg (by decide)]
      have := ih (e + 1) (wI I 199 4 (nI (e + 1))) (by omega) (fun k hk => by rw [wI_ne (by decide)]; exact hX k hk) (by rw [wI_nk (by decide)]; exact h2) wI_eq
      rw [this, spl_s, if_pos ⟨by omega, hl⟩]
      have e2 : wI (wI I 199 4 (nI (e + 1))) 199 4 (nI (spl T n f (e + 1))) = wI I 199 4 (nI (spl T n f (e + 1))) := by
        funext c j
        unfold wI
        split <;> rfl
      rw [e2]
    · rw [if_neg hl, if_pos nI_0]
      rw [spl_s, if_neg (fun h => hl h.2)]
      have : wI I 199 4 (nI e) = I := by
        funext c j
        unfold wI
        by_cases h : c = 199 ∧ j = 4
        · rw [if_pos h, h.1, h.2, h4]
        · rw [if_neg h]
      rw [this]
/-- the digits of a number -/
theorem nvU_lt (T : Nat → Nat) (a : Nat) (h : ∀ i, i < k → T (a + i) ≤ 57) : nvU T a k < 10 ^ k := by
  induction k with
  | zero => show 0 < 1; decide
  | succ k ih =>
    have h1 := ih (fun i hi => h i (by omega))
    have h2 := h k (by omega)
    show nvU T a k * 10 + (T (a + k) - 48) < 10 ^ (k + 1)
    rw [Nat.pow_succ]
    omega
theorem e27d (hT : okT T n) : ∀ f e (I : mI), f + e = n → a ≤ e → (∀ i, a ≤ i → i < e → dgt (T i)) → TxC I T n → I 199 2 = nI n → I 199 3 = nI a → I 199 4 = nI e → I 199 6 = nI (nvU T a (min 4 (e - a))) → ∃ I', FR I' I ∧ (I' 199 2 = nI n ∧ I' 199 3 = nI a ∧ I' 199 4 = nI (spd T n f e) ∧ I' 199 5 = (if spd T n f e - a ≤ 4 then Int32.ofInt (-3) else Int32.ofInt (-4)) ∧ I' 199 6 = nI (nvU T a (min 4 (spd T n f e - a)))) ∧ am_X (am_cal (d + 1)) 27 75 [.ref 199] [] (mS I J) = some (none, mS I' J) := by
  have hn := hT.1
  have fin : ∀ e (I : mI), a ≤ e → e ≤ n → I 199 2 = nI n → I 199 3 = nI a → I 199 4 = nI e → I 199 6 = nI (nvU T a (min 4 (e - a))) → am_X (am_cal (d + 1)) 27 75 [.ref 199] [] (mS I J) = (if nI 4 < nI e - nI a then some (none, mS (wI I 199 5 (Int32.ofInt (-4))) J) else some (none, mS (wI I 199 5 (Int32.ofInt (-3))) J)) → ∃ I', FR I' I ∧ (I' 199 2 = nI n ∧ I' 199 3 = nI a ∧ I' 199 4 = nI e ∧ I' 199 5 = (if e - a ≤ 4 then Int32.ofInt (-3) else Int32.ofInt (-4)) ∧ I' 199 6 = nI (nvU T a (min 4 (e - a)))) ∧ am_X (am_cal (d + 1)) 27 75 [.ref 199] [] (mS I J) = some (none, mS I' J) := fun e I hae hen h2 h3 h4 h6 h => by
    rw [n_sub hae] at h
    by_cases hh : e - a ≤ 4
    · have hl : ¬ nI 4 < nI (e - a) := by rw [n_lt (by decide) (by omega)]; omega
      rw [if_neg hl] at h
      rw [if_pos hh]
      exact ⟨_, fun c hc => wI_F1 c hc, ⟨by rw [wI_nk (by decide)]; exact h2, by rw [wI_nk (by decide)]; exact h3, by rw [wI_nk (by decide)]; exact h4, wI_eq, by rw [wI_nk (by decide)]; exact h6⟩, h⟩
    · have hl : nI 4 < nI (e - a) := by rw [n_lt (by decide) (by omega)]; omega
      rw [if_pos hl] at h
      rw [if_neg hh]
      exact ⟨_, fun c hc => wI_F1 c hc, ⟨by rw [wI_nk (by decide)]; exact h2, by rw [wI_nk (by decide)]; exact h3, by rw [wI_nk (by decide)]; exact h4, wI_eq, by rw [wI_nk (by decide)]; exact h6⟩, h⟩
  intro f
  induction f with
  | zero =>
    intro e I hf hae hdd hX h2 h3 h4 h6
    refine fin e I hae (by omega) h2 h3 h4 h6 ?_
    rw [e_27_75]
    simp only [lc_199, h2, h3, h4, n_lt (show e < 2 ^ 31 by omega) (show n < 2 ^ 31 by omega), eq_false (show ¬ e < n by omega), bq_s, mS_c, mS_l, mS_r, mS_i, mS_j, mS_pi, mS_pj, lt_st, bq_s, bV_s, bI_s, bJ_s, bA_s, nz_0, nc_0, nz_1, nc_1, nz_2, nc_2, nz_3, nc_3, nz_4, nc_4, nz_5, nc_5, nz_6, nc_6, nz_7, nc_7, nz_8, nc_8, nz_9, nc_9, nz_10, nc_10, nz_11, nc_11, nz_12, nc_12, if_true, if_false, eq_self, true_and, and_true, false_or, or_false, true_or, or_true, false_and, and_false, not_true, not_false_eq_true, ne_eq, ite_self, ite_not, ↓reduceIte, n_101, n_107, n_11]
  | succ f ih =>
    intro e I hf hae hdd hX h2 h3 h4 h6
    have i0c : (nI (e)).toNatClampNeg = e := nI_clamp (by omega)
    have i0z : (nI (e) < 0) = False := n_ge0 (by omega)
    have i0l : (200 ≤ e) = False := n_lef (by omega)
    have hb := hT.2 e (by omega)
    have e0 : am_X (am_cal (d + 1)) 27 75 [.ref 199] [] (mS I J) = _ := e_27_75
    simp only [lc_199, lr_199_1, lc_198, ll_198, h2, h3, h4, i0c, i0z, i0l, hX e (by omega), k32 hb, n_lt (show e < 2 ^ 31 by omega) (show n < 2 ^ 31 by omega), eq_true (show e < n by omega), nI_add, n_sub hae, n_lt (show e - a < 2 ^ 31 by omega) (show 4 < 2 ^ 31 by decide), bq_s, mS_c, mS_l, mS_r, mS_i, mS_j, mS_pi, mS_pj, lt_st, bq_s, bV_s, bI_s, bJ_s, bA_s, nz_0, nc_0, nz_1, nc_1, nz_2, nc_2, nz_3, nc_3, nz_4, nc_4, nz_5, nc_5, nz_6, nc_6, nz_7, nc_7, nz_8, nc_8, nz_9, nc_9, nz_10, nc_10, nz_11, nc_11, nz_12, nc_12, if_true, if_false, eq_self, true_and, and_true, false_or, or_false, true_or, or_true, false_and, and_false, not_true, not_false_eq_true, ne_eq, ite_self, ite_not, ↓reduceIte, n_101, n_107, n_11] at e0
    unfold spd
    by_cases hl : dgt (T e)
    · rw [if_pos hl, if_neg (by decide)] at e0
      rw [if_pos ⟨by omega, hl⟩]
      by_cases h4' : e - a < 4
      · have hs := (sx_t _ hb).2.2.2.2.1 hl
        have hv : nI (nvU T a (min 4 (e - a))) * nI 10 + sx (T e) - nI 48 = nI (nvU T a (min 4 (e + 1 - a))) := by
          rw [hs, show min 4 (e - a) = e - a by omega, show min 4 (e + 1 - a) = (e - a) + 1 by omega]
          show _ = nI (nvU T a (e - a) * 10 + (T (a + (e - a)) - 48))
          rw [show a + (e - a) = e by omega, pk_mul, nI_add, n_sub (show 48 ≤ nvU T a (e - a) * 10 + T e by omega), show nvU T a (e - a) * 10 + T e - 48 = nvU T a (e - a) * 10 + (T e - 48) by omega]
        rw [if_pos h4'] at e0
        simp only [h6, hv, h4, wI_ne (show (198 : Nat) ≠ 199 by decide), hX e (by omega), bq_s, mS_c, mS_l, mS_r, mS_i, mS_j, mS_pi, mS_pj, lt_st, bq_s, bV_s, bI_s, bJ_s, bA_s, nz_0, nc_0, nz_1, nc_1, nz_2, nc_2, nz_3, nc_3, nz_4, nc_4, nz_5, nc_5, nz_6, nc_6, nz_7, nc_7, nz_8, nc_8, nz_9, nc_9, nz_10, nc_10, nz_11, nc_11, nz_12, nc_12, if_true, if_false, eq_self, true_and, and_true, false_or, or_false, true_or, or_true, false_and, and_false, not_true, not_false_eq_true, ne_eq, ite_self, ite_not, ↓reduceIte, n_101, n_107, n_11] at e0
        have g4 : ∀ v : Int32, wI I 199 6 v 199 4 = nI e := fun v => by rw [wI_nk (by decide)]; exact h4
        simp only [g4, nI_add] at e0
        obtain ⟨I', a1, a2, a3⟩ := ih (e + 1) (wI (wI I 199 6 (nI (nvU T a (min 4 (e + 1 - a))))) 199 4 (nI (e + 1))) (by omega) (by omega) (fun i h1 h2 => by
          by_cases hh : i = e
          · subst hh; exact hl
          · exact hdd i h1 (by omega)) (fun k hk => by rw [wI_ne (by decide), wI_ne (by decide)]; exact hX k hk) (by rw [wI_nk (by decide), wI_nk (by decide)]; exact h2) (by rw [wI_nk (by decide), wI_nk (by decide)]; exact h3) wI_eq (by rw [wI_nk (by decide), wI_eq])
        exact ⟨I', fun c hc => by rw [a1 c hc, wI_F1 c hc, wI_F1 c hc], a2, e0.trans a3⟩
      · rw [if_neg h4'] at e0
        obtain ⟨I', a1, a2, a3⟩ := ih (e + 1) (wI I 199 4 (nI (e + 1))) (by omega) (by omega) (fun i h1 h2 => by
          by_cases hh : i = e
          · subst hh; exact hl
          · exact hdd i h1 (by omega)) (fun k hk => by rw [wI_ne (by decide)]; exact hX k hk) (by rw [wI_nk (by decide)]; exact h2) (by rw [wI_nk (by decide)]; exact h3) wI_eq (by rw [wI_nk (by decide), h6, show min 4 (e - a) = min 4 (e + 1 - a) by omega])
        exact ⟨I', fun c hc => by rw [a1 c hc, wI_F1 c hc], a2, e0.trans a3⟩
    · rw [if_neg hl, if_pos nI_0] at e0
      rw [if_neg (fun h => hl h.2)]
      refine fin e I hae (by omega) h2 h3 h4 h6 ?_
      rw [n_sub hae]
      exact e0
theorem spl_1 (h : a < n) (hl : ltr (T a)) : spl T n (n - a) a = spl T n (n - (a + 1)) (a + 1) := by
  rw [show n - a = (n - (a + 1)) + 1 by omega]
  show (if a < n ∧ ltr (T a) then _ else _) = _
  rw [if_pos ⟨h, hl⟩]
theorem spd_1 (h : a < n) (hl : dgt (T a)) : spd T n (n - a) a = spd T n (n - (a + 1)) (a + 1) := by
  rw [show n - a = (n - (a + 1)) + 1 by omega]
  show (if a < n ∧ dgt (T a) then _ else _) = _
  rw [if_pos ⟨h, hl⟩]
/-- over blanks, then the name, number or other byte -/
theorem e27 (hT : okT T n) : ∀ f a (I : mI), f + a = n → TxC I T n → I 199 2 = nI n → I 199 3 = nI a → ∃ I', FR I' I ∧ LxC I' T n (skp T n f a, lxE T n (skp T n f a)) ∧ am_X (am_cal (d + 2)) 27 4 [.ref 199] [] (mS I J) = some (none, mS I' J) := by
  have hn := hT.1
  intro f
  induction f with
  | zero =>
    intro a I hf hX h2 h3
    have ha : a = n := by omega
    subst ha
    have g2 : wI (wI I 199 4 (nI a)) 199 5 (Int32.ofInt (-1)) 199 2 = nI a := by rw [wI_nk (by decide), wI_nk (by decide)]; exact h2
    have g3 : wI (wI I 199 4 (nI a)) 199 5 (Int32.ofInt (-1)) 199 3 = nI a := by rw [wI_nk (by decide), wI_nk (by decide)]; exact h3
    refine ⟨wI (wI I 199 4 (nI a)) 199 5 (Int32.ofInt (-1)), fun c hc => by rw [wI_F1 c hc, wI_F1 c hc], ?_, ?_⟩
    · unfold skp lxE
      rw [if_neg (Nat.lt_irrefl _)]
      refine ⟨g2, g3, by rw [wI_nk (by decide), wI_eq], ?_, fun h => absurd h (Nat.lt_irrefl _)⟩
      rw [wI_eq]
      exact (if_neg (Nat.lt_irrefl _)).symm
    · rw [e_27_4]
      simp only [lc_199, h2, h3, g2, g3, n_lt (show a < 2 ^ 31 by omega) (show a < 2 ^ 31 by omega), Nat.lt_irrefl, bq_s, mS_c, mS_l, mS_r, mS_i, mS_j, mS_pi, mS_pj, lt_st, bq_s, bV_s, bI_s, bJ_s, bA_s, nz_0, nc_0, nz_1, nc_1, nz_2, nc_2, nz_3, nc_3, nz_4, nc_4, nz_5, nc_5, nz_6, nc_6, nz_7, nc_7, nz_8, nc_8, nz_9, nc_9, nz_10, nc_10, nz_11, nc_11, nz_12, nc_12, if_true, if_false, eq_self, true_and, and_true, false_or, or_false, true_or, or_true, false_and, and_false, not_true, not_false_eq_true, ne_eq, ite_self, ite_not, ↓reduceIte, n_101, n_107, n_11]
  | succ f ih =>
    intro a I hf hX h2 h3
    have i0c : (nI (a)).toNatClampNeg = a := nI_clamp (by omega)
    have i0z : (nI (a) < 0) = False := n_ge0 (by omega)
    have i0l : (200 ≤ a) = False := n_lef (by omega)
    have hb := hT.2 a (by omega)
    have hn' : a < n := by omega
    have e0 : am_X (am_cal (d + 2)) 27 4 [.ref 199] [] (mS I J) = _ := e_27_4
    have s32 : (sx (T a) = nI 32) = (T a = 32) := propext (sx_t _ hb).2.2.1
    simp only [lc_199, lr_199_1, lc_198, ll_198, h2, h3, i0c, i0z, i0l, hX a hn', s32, n_lt (show a < 2 ^ 31 by omega) (show n < 2 ^ 31 by omega), eq_true hn', nI_add, bq_s, mS_c, mS_l, mS_r, mS_i, mS_j, mS_pi, mS_pj, lt_st, bq_s, bV_s, bI_s, bJ_s, bA_s, nz_0, nc_0, nz_1, nc_1, nz_2, nc_2, nz_3, nc_3, nz_4, nc_4, nz_5, nc_5, nz_6, nc_6, nz_7, nc_7, nz_8, nc_8, nz_9, nc_9, nz_10, nc_10, nz_11, nc_11, nz_12, nc_12, if_true, if_false, eq_self, true_and, and_true, false_or, or_false, true_or, or_true, false_and, and_false, not_true, not_false_eq_true, ne_eq, ite_self, ite_not, ↓reduceIte, n_101, n_107, n_11] at e0
    unfold skp
    by_cases hs : T a = 32
    · rw [if_pos hs] at e0
      rw [if_pos ⟨hn', hs⟩]
      obtain ⟨I', a1, a2, a3⟩ := ih (a + 1) (wI I 199 3 (nI (a + 1))) (by omega) (fun k hk => by rw [wI_ne (by decide)]; exact hX k hk) (by rw [wI_nk (by decide)]; exact h2) wI_eq
      exact ⟨I', fun c hc => by rw [a1 c hc, wI_F1 c hc], a2, e0.trans a3⟩
    · rw [if_neg hs] at e0
      rw [if_neg (fun h => hs h.2)]
      generalize hI1 : wI (wI I 199 4 (nI a)) 199 5 (Int32.ofInt (-1)) = I1 at e0
      have g : ∀ c, c ≠ 199 → I1 c = I c := fun c hc => by rw [← hI1, wI_F1 c hc, wI_F1 c hc]
      have g2 : I1 199 2 = nI n := by rw [← hI1, wI_nk (by decide), wI_nk (by decide)]; exact h2
      have g3 : I1 199 3 = nI a := by rw [← hI1, wI_nk (by decide), wI_nk (by decide)]; exact h3
      have g4 : I1 199 4 = nI a := by rw [← hI1, wI_nk (by decide), wI_eq]
      have gX : TxC I1 T n := fun k hk => by rw [g 198 (by decide)]; exact hX k hk
      simp only [lc_199, lr_199_1, lc_198, ll_198, g2, g3, i0c, i0z, i0l, gX a hn', n_lt (show a < 2 ^ 31 by omega) (show n < 2 ^ 31 by omega), eq_true hn', k31 hb, bq_s, mS_c, mS_l, mS_r, mS_i, mS_j, mS_pi, mS_pj, lt_st, bq_s, bV_s, bI_s, bJ_s, bA_s, nz_0, nc_0, nz_1, nc_1, nz_2, nc_2, nz_3, nc_3, nz_4, nc_4, nz_5, nc_5, nz_6, nc_6, nz_7, nc_7, nz_8, nc_8, nz_9, nc_9, nz_10, nc_10, nz_11, nc_11, nz_12, nc_12, if_true, if_false, eq_self, true_and, and_true, false_or, or_false, true_or, or_true, false_and, and_false, not_true, not_false_eq_true, ne_eq, ite_self, ite_not, ↓reduceIte, n_101, n_107, n_11] at e0
      unfold lxE
      rw [if_pos hn']
      by_cases hl : ltr (T a)
      · rw [if_pos hl, if_neg (by decide)] at e0
        rw [if_pos hl, ← spl_1 hn' hl]
        have hX2 : TxC (wI I1 199 5 (Int32.ofInt (-2))) T n := fun k hk => by rw [wI_ne (by decide)]; exact gX k hk
        rw [e27l (d := d + 1) hT (n - a) a _ (by omega) hX2 (by rw [wI_nk (by decide)]; exact g2) (by rw [wI_nk (by decide)]; exact g4)] at e0
        refine ⟨_, fun c hc => by rw [wI_F1 c hc, wI_F1 c hc, g c hc], ⟨by rw [wI_nk (by decide), wI_nk (by decide)]; exact g2, by rw [wI_nk (by decide), wI_nk (by decide)]; exact g3, wI_eq, ?_, fun _ h => by have h' : dgt (T a) := h; omega⟩, e0⟩
        rw [wI_nk (by decide), wI_eq]
        unfold tkW
        rw [if_pos hn', if_pos hl]
      · rw [if_neg hl, if_pos nI_0] at e0
        simp only [lc_199, lr_199_1, lc_198, ll_198, g2, g3, i0c, i0z, i0l, gX a hn', k32 hb, bq_s, mS_c, mS_l, mS_r, mS_i, mS_j, mS_pi, mS_pj, lt_st, bq_s, bV_s, bI_s, bJ_s, bA_s, nz_0, nc_0, nz_1, nc_1, nz_2, nc_2, nz_3, nc_3, nz_4, nc_4, nz_5, nc_5, nz_6, nc_6, nz_7, nc_7, nz_8, nc_8, nz_9, nc_9, nz_10, nc_10, nz_11, nc_11, nz_12, nc_12, if_true, if_false, eq_self, true_and, and_true, false_or, or_false, true_or, or_true, false_and, and_false, not_true, not_false_eq_true, ne_eq, ite_self, ite_not, ↓reduceIte, n_101, n_107, n_11] at e0
        rw [if_neg hl]
        by_cases hd : dgt (T a)
        · rw [if_pos hd, if_neg (by decide)] at e0
          rw [if_pos hd, ← spd_1 hn' hd]
          have hX2 : TxC (wI I1 199 6 (nI 0)) T n := fun k hk => by rw [wI_ne (by decide)]; exact gX k hk
          obtain ⟨I2, b1, ⟨b2, b3, b4, b5, b6⟩, b7⟩ := e27d (d := d + 1) (J := J) (a := a) hT (n - a) a (wI I1 199 6 (nI 0)) (by omega) (Nat.le_refl _) (fun i h1 h2 => by omega) hX2 (by rw [wI_nk (by decide)]; exact g2) (by rw [wI_nk (by decide)]; exact g3) (by rw [wI_nk (by decide)]; exact g4) (by rw [wI_eq, Nat.sub_self]; rfl)
          have b8 : am_X (am_cal (d + 2)) 27 75 [.ref 199] [] (mS (wI I1 199 6 (nI 0)) J) = some (none, mS I2 J) := b7
          rw [b8] at e0
          refine ⟨I2, fun c hc => by rw [b1 c hc, wI_F1 c hc, g c hc], ⟨b2, b3, b4, ?_, fun _ _ => b6⟩, e0⟩
          rw [b5]
          unfold tkW
          rw [if_pos hn', if_neg hl, if_pos hd]
        · rw [if_neg hd, if_pos nI_0] at e0
          have gg4 : ∀ v : Int32, wI I1 199 5 v 199 4 = nI a := fun v => by rw [wI_nk (by decide)]; exact g4
          simp only [lc_199, lr_199_1, lc_198, ll_198, g2, g3, i0c, i0z, i0l, gX a hn', (sx_t _ hb).2.2.2.1, gg4, nI_add, bq_s, mS_c, mS_l, mS_r, mS_i, mS_j, mS_pi, mS_pj, lt_st, bq_s, bV_s, bI_s, bJ_s, bA_s, nz_0, nc_0, nz_1, nc_1, nz_2, nc_2, nz_3, nc_3, nz_4, nc_4, nz_5, nc_5, nz_6, nc_6, nz_7, nc_7, nz_8, nc_8, nz_9, nc_9, nz_10, nc_10, nz_11, nc_11, nz_12, nc_12, if_true, if_false, eq_self, true_and, and_true, false_or, or_false, true_or, or_true, false_and, and_false, not_true, not_false_eq_true, ne_eq, ite_self, ite_not, ↓reduceIte, n_101, n_107, n_11] at e0
          rw [if_neg hd]
          refine ⟨_, fun c hc => by rw [wI_F1 c hc, wI_F1 c hc, g c hc], ⟨by rw [wI_nk (by decide), wI_nk (by decide)]; exact g2, by rw [wI_nk (by decide), wI_nk (by decide)]; exact g3, wI_eq, ?_, fun _ h => absurd h hd⟩, e0⟩
          rw [wI_nk (by decide), wI_eq]
          unfold tkW
          rw [if_pos hn', if_neg hl, if_neg hd]
theorem k27 (hT : okT T n) (hX : TxC I T n) (h2 : I 199 2 = nI n) (h4 : I 199 4 = nI e) (he : e ≤ n) : ∃ I', FR I' I ∧ LxC I' T n (lx T n e) ∧ am_cal (d + 3) 27 [.ref 199] (mS I J) = some (none, mS I' J) := by
  obtain ⟨I', a1, a2, a3⟩ := e27 (d := d) (J := J) hT (n - e) e (wI I 199 3 (nI e)) (by omega) (fun k hk => by rw [wI_ne (by decide)]; exact hX k hk) (by rw [wI_nk (by decide)]; exact h2) wI_eq
  refine ⟨I', fun c hc => by rw [a1 c hc, wI_F1 c hc], a2, ?_⟩
  rw [c_27 lc_199]
  simp only [lc_199, h4, bq_s, mS_c, mS_l, mS_r, mS_i, mS_j, mS_pi, mS_pj, lt_st, bq_s, bV_s, bI_s, bJ_s, bA_s, nz_0, nc_0, nz_1, nc_1, nz_2, nc_2, nz_3, nc_3, nz_4, nc_4, nz_5, nc_5, nz_6, nc_6, nz_7, nc_7, nz_8, nc_8, nz_9, nc_9, nz_10, nc_10, nz_11, nc_11, nz_12, nc_12, if_true, if_false, eq_self, true_and, and_true, false_or, or_false, true_or, or_true, false_and, and_false, not_true, not_false_eq_true, ne_eq, ite_self, ite_not, ↓reduceIte, n_101, n_107, n_11]
  exact a3
end J2s
