/-! ===== fewest ===== -/
def bcF : Nat → Nat → Nat
  | 0, _ => 0
  | n + 1, m => m % 2 + bcF n (m / 2)
def bc (m : Nat) : Nat := bcF 10 m
set_option maxRecDepth 20000 in
theorem e271 : ∀ m, m < 1024 → (((((((((nI m) - ((UInt32.toInt32 (Int32.toUInt32 (nI m) >>> Int32.toUInt32 ((nI 1) &&& 31))) &&& (nI 1431655765))) &&& (nI 858993459)) + ((UInt32.toInt32 (Int32.toUInt32 ((nI m) - ((UInt32.toInt32 (Int32.toUInt32 (nI m) >>> Int32.toUInt32 ((nI 1) &&& 31))) &&& (nI 1431655765))) >>> Int32.toUInt32 ((nI 2) &&& 31))) &&& (nI 858993459))) + (UInt32.toInt32 (Int32.toUInt32 ((((nI m) - ((UInt32.toInt32 (Int32.toUInt32 (nI m) >>> Int32.toUInt32 ((nI 1) &&& 31))) &&& (nI 1431655765))) &&& (nI 858993459)) + ((UInt32.toInt32 (Int32.toUInt32 ((nI m) - ((UInt32.toInt32 (Int32.toUInt32 (nI m) >>> Int32.toUInt32 ((nI 1) &&& 31))) &&& (nI 1431655765))) >>> Int32.toUInt32 ((nI 2) &&& 31))) &&& (nI 858993459))) >>> Int32.toUInt32 ((nI 4) &&& 31)))) &&& (nI 252645135)) + (UInt32.toInt32 (Int32.toUInt32 ((((((nI m) - ((UInt32.toInt32 (Int32.toUInt32 (nI m) >>> Int32.toUInt32 ((nI 1) &&& 31))) &&& (nI 1431655765))) &&& (nI 858993459)) + ((UInt32.toInt32 (Int32.toUInt32 ((nI m) - ((UInt32.toInt32 (Int32.toUInt32 (nI m) >>> Int32.toUInt32 ((nI 1) &&& 31))) &&& (nI 1431655765))) >>> Int32.toUInt32 ((nI 2) &&& 31))) &&& (nI 858993459))) + (UInt32.toInt32 (Int32.toUInt32 ((((nI m) - ((UInt32.toInt32 (Int32.toUInt32 (nI m) >>> Int32.toUInt32 ((nI 1) &&& 31))) &&& (nI 1431655765))) &&& (nI 858993459)) + ((UInt32.toInt32 (Int32.toUInt32 ((nI m) - ((UInt32.toInt32 (Int32.toUInt32 (nI m) >>> Int32.toUInt32 ((nI 1) &&& 31))) &&& (nI 1431655765))) >>> Int32.toUInt32 ((nI 2) &&& 31))) &&& (nI 858993459))) >>> Int32.toUInt32 ((nI 4) &&& 31)))) &&& (nI 252645135)) >>> Int32.toUInt32 ((nI 8) &&& 31)))) + (UInt32.toInt32 (Int32.toUInt32 (((((((nI m) - ((UInt32.toInt32 (Int32.toUInt32 (nI m) >>> Int32.toUInt32 ((nI 1) &&& 31))) &&& (nI 1431655765))) &&& (nI 858993459)) + ((UInt32.toInt32 (Int32.toUInt32 ((nI m) - ((UInt32.toInt32 (Int32.toUInt32 (nI m) >>> Int32.toUInt32 ((nI 1) &&& 31))) &&& (nI 1431655765))) >>> Int32.toUInt32 ((nI 2) &&& 31))) &&& (nI 858993459))) + (UInt32.toInt32 (Int32.toUInt32 ((((nI m) - ((UInt32.toInt32 (Int32.toUInt32 (nI m) >>> Int32.toUInt32 ((nI 1) &&& 31))) &&& (nI 1431655765))) &&& (nI 858993459)) + ((UInt32.toInt32 (Int32.toUInt32 ((nI m) - ((UInt32.toInt32 (Int32.toUInt32 (nI m) >>> Int32.toUInt32 ((nI 1) &&& 31))) &&& (nI 1431655765))) >>> Int32.toUInt32 ((nI 2) &&& 31))) &&& (nI 858993459))) >>> Int32.toUInt32 ((nI 4) &&& 31)))) &&& (nI 252645135)) + (UInt32.toInt32 (Int32.toUInt32 ((((((nI m) - ((UInt32.toInt32 (Int32.toUInt32 (nI m) >>> Int32.toUInt32 ((nI 1) &&& 31))) &&& (nI 1431655765))) &&& (nI 858993459)) + ((UInt32.toInt32 (Int32.toUInt32 ((nI m) - ((UInt32.toInt32 (Int32.toUInt32 (nI m) >>> Int32.toUInt32 ((nI 1) &&& 31))) &&& (nI 1431655765))) >>> Int32.toUInt32 ((nI 2) &&& 31))) &&& (nI 858993459))) + (UInt32.toInt32 (Int32.toUInt32 ((((nI m) - ((UInt32.toInt32 (Int32.toUInt32 (nI m) >>> Int32.toUInt32 ((nI 1) &&& 31))) &&& (nI 1431655765))) &&& (nI 858993459)) + ((UInt32.toInt32 (Int32.toUInt32 ((nI m) - ((UInt32.toInt32 (Int32.toUInt32 (nI m) >>> Int32.toUInt32 ((nI 1) &&& 31))) &&& (nI 1431655765))) >>> Int32.toUInt32 ((nI 2) &&& 31))) &&& (nI 858993459))) >>> Int32.toUInt32 ((nI 4) &&& 31)))) &&& (nI 252645135)) >>> Int32.toUInt32 ((nI 8) &&& 31)))) >>> Int32.toUInt32 ((nI 16) &&& 31)))) &&& (nI 63)) = nI (bc m) := by decide +kernel
set_option maxRecDepth 20000 in
theorem clr_t : ∀ m, m < 1024 → m ≠ 0 → (nI m &&& (nI m - nI 1)) = nI (m &&& (m - 1)) ∧ (m &&& (m - 1)) < m ∧ bc (m &&& (m - 1)) + 1 = bc m := by decide +kernel
theorem all_t : ∀ k, k < 11 → (nI 1 <<< (nI k &&& 31)) - nI 1 = nI (2 ^ k - 1) ∧ bc (2 ^ k - 1) = k ∧ 2 ^ k - 1 < 1024 := by decide +kernel
theorem bc_lt : ∀ k, k < 11 → ∀ m, m < 2 ^ k - 1 → bc m < bc (2 ^ k - 1) := by decide +kernel
theorem bc_le : ∀ m, m < 1024 → bc m ≤ 10 := by decide +kernel
def tri : Nat → Nat
  | 0 => 0
  | p + 1 => tri p + p
theorem tri_t : ∀ p, p < 12 → ∀ q, q < p → tri p + q < 66 := by decide +kernel
def tell (s : Rw) (p q : Nat) : Prop := ¬ pF s p 0 = nI 6 ∧ ¬ pF s q 0 = nI 6 ∧ ¬ knw s p = knw s q
noncomputable def prsQ (s : Rw) (p : Nat) : Nat → List Int32
  | 0 => []
  | q + 1 => prsQ s p q ++ @ite _ (tell s p q) (Classical.propDecidable _) [knw s p ^^^ knw s q] []
noncomputable def prsP (s : Rw) : Nat → List Int32
  | 0 => []
  | p + 1 => prsP s p ++ prsQ s p p
theorem prsQ_t {s : Rw} {p q : Nat} (h : tell s p q) : prsQ s p (q + 1) = prsQ s p q ++ [knw s p ^^^ knw s q] := congrArg (prsQ s p q ++ ·) (if_pos h)
theorem prsQ_f {s : Rw} {p q : Nat} (h : ¬ tell s p q) : prsQ s p (q + 1) = prsQ s p q := (congrArg (prsQ s p q ++ ·) (if_neg h)).trans (List.append_nil _)
theorem prsQ_len {s : Rw} {p : Nat} : ∀ q, (prsQ s p q).length ≤ q
  | 0 => Nat.le_refl _
  | q + 1 => by
    have := prsQ_len (s := s) (p := p) q
    by_cases h : tell s p q
    · rw [prsQ_t h, List.length_append]; exact Nat.succ_le_succ this
    · rw [prsQ_f h]; omega
theorem prsP_len {s : Rw} : ∀ p, (prsP s p).length ≤ tri p
  | 0 => Nat.le_refl _
  | p + 1 => by
    have h1 := prsP_len (s := s) p
    have h2 := prsQ_len (s := s) (p := p) p
    show (prsP s p ++ prsQ s p p).length ≤ tri p + p
    rw [List.length_append]
    omega
def Tl (l : List Int32) (m : Nat) : Prop := ∀ x ∈ l, ¬ x &&& nI m = 0
def Ts (s : Rw) (m : Nat) : Prop := Tl (prsP s (nP s)) m
theorem Tl_app {l r : List Int32} {m : Nat} : Tl (l ++ r) m ↔ Tl l m ∧ Tl r m := ⟨fun h => ⟨fun x hx => h x (List.mem_append.mpr (Or.inl hx)), fun x hx => h x (List.mem_append.mpr (Or.inr hx))⟩, fun h x hx => (List.mem_append.mp hx).elim (h.1 x) (h.2 x)⟩
theorem Tl_nil {m : Nat} : Tl [] m := fun x hx => by cases hx
theorem Tl_one {x : Int32} {m : Nat} : Tl [x] m ↔ ¬ x &&& nI m = 0 := ⟨fun h => h x List.mem_cons_self, fun h y hy => by rw [List.mem_singleton.mp hy]; exact h⟩
noncomputable def asc (s : Rw) (N : Nat) : Nat → Nat
  | 0 => N
  | k + 1 => @ite _ (bc k < bc (asc s N k) ∧ Ts s k) (Classical.propDecidable _) k (asc s N k)
noncomputable def few (s : Rw) : Nat := asc s (2 ^ nD s - 1) (2 ^ nD s - 1)
noncomputable def v_few (s : Rw) (x : Int32) : Int32 := if x = nI 0 then nI (bc (few s)) else if x = nI 1 then nI (few s) else Int32.ofInt (-1)
def isMin (s : Rw) (N b : Nat) : Prop := b ≤ N ∧ (b = N ∨ Ts s b) ∧ ∀ m, m ≤ N → (m = N ∨ Ts s m) → bc b < bc m ∨ (bc b = bc m ∧ b ≤ m)
theorem isMin_u {s : Rw} {N a b : Nat} (ha : isMin s N a) (hb : isMin s N b) : a = b := by
  have h1 := ha.2.2 b hb.1 hb.2.1
  have h2 := hb.2.2 a ha.1 ha.2.1
  omega
theorem asc_inv {s : Rw} {N : Nat} (hN : ∀ m, m < N → bc m < bc N) : ∀ k, k ≤ N → asc s N k ≤ N ∧ (asc s N k = N ∨ (Ts s (asc s N k) ∧ asc s N k < k)) ∧ bc (asc s N k) ≤ bc N ∧ ∀ m, m < k → Ts s m → bc (asc s N k) < bc m ∨ (bc (asc s N k) = bc m ∧ asc s N k ≤ m)
  | 0, _ => ⟨Nat.le_refl _, Or.inl rfl, Nat.le_refl _, fun m hm => by omega⟩
  | k + 1, hk => by
    obtain ⟨h1, h2, h3, h4⟩ := asc_inv (s := s) (N := N) hN k (by omega)
    by_cases hc : bc k < bc (asc s N k) ∧ Ts s k
    · have e : asc s N (k + 1) = k := if_pos hc
      rw [e]
      refine ⟨by omega, Or.inr ⟨hc.2, by omega⟩, by omega, fun m hm hT => ?_⟩
      by_cases hmk : m = k
      · subst hmk; exact Or.inr ⟨rfl, Nat.le_refl _⟩
      · have := h4 m (by omega) hT
        exact Or.inl (by omega)
    · have e : asc s N (k + 1) = asc s N k := if_neg hc
      rw [e]
      refine ⟨h1, h2.imp id fun h => ⟨h.1, by omega⟩, h3, fun m hm hT => ?_⟩
      by_cases hmk : m = k
      · subst hmk
        have hn : ¬ bc m < bc (asc s N m) := fun h => hc ⟨h, hT⟩
        rcases h2 with h2 | h2
        · have : bc (asc s N m) = bc N := by rw [h2]
          by_cases he : bc (asc s N m) = bc m
          · exfalso
            have := hN m (by omega)
            omega
          · exact Or.inl (by omega)
        · by_cases he : bc (asc s N m) = bc m
          · exact Or.inr ⟨he, by omega⟩
          · exact Or.inl (by omega)
      · exact h4 m (by omega) hT
theorem few_min {s : Rw} (hW : WF s) : isMin s (2 ^ nD s - 1) (few s) := by
  have h10 := hW.nD.1
  have hN := bc_lt (nD s) (by omega)
  obtain ⟨h1, h2, h3, h4⟩ := asc_inv (s := s) hN (2 ^ nD s - 1) (Nat.le_refl _)
  refine ⟨h1, h2.imp id fun h => h.1, fun m hm hT => ?_⟩
  show bc (asc s _ _) < bc m ∨ (bc (asc s _ _) = bc m ∧ asc s _ _ ≤ m)
  by_cases he : m = 2 ^ nD s - 1
  · subst he
    by_cases hb : bc (asc s (2 ^ nD s - 1) (2 ^ nD s - 1)) = bc (2 ^ nD s - 1)
    · exact Or.inr ⟨hb, h1⟩
    · exact Or.inl (by omega)
  · rcases hT with hT | hT
    · exact absurd hT he
    · exact h4 m (by omega) hT
section C5
variable {I : mI} {J : mJ} {w p q e c d l b g : Nat} {s : Rw} {x y key day : Int32}
theorem k271 {m : Nat} (hm : m < 1024) : am_cal (g + 1) 271 [.int (nI m)] (mS I J) = some (some (.int (nI (bc m))), mS I J) := by
  rw [c_271, e271 m hm]
/-! the class -/
def rowIs (I : mI) (b : Nat) (L : List Int32) : Prop := ∀ i, i < L.length → L[i]? = some (I b i)
theorem rowIs_app {I : mI} {b : Nat} {L : List Int32} {v : Int32} (h : rowIs I b L) : rowIs (wI I b L.length v) b (L ++ [v]) := fun i hi => by
  rw [List.length_append] at hi
  by_cases e : i < L.length
  · rw [List.getElem?_append_left e, wI_nk (by omega)]
    exact h i e
  · have : i = L.length := by simp at hi; omega
    subst this
    rw [wI_eq, List.getElem?_concat_length]
theorem k45 (h : Rep I 1 s) (hW : WF s) (hA : ∀ p, p < nP s → I 196 p = knw s p) : ∃ I', F1 197 I' I ∧ rowIs I' 197 (prsP s (nP s)) ∧ am_cal (g + 2) 45 [.ref 195] (mS I J) = some (some (.int (nI (prsP s (nP s)).length)), mS I' J) := by
  have h12 := hW.nP.1
  have fr : ∀ {I1 : mI}, F1 197 I1 I → Rep I1 1 s := fun h1 => FC.rep h hW (fun a _ _ hc => h1 a hc)
  have lq : ∀ (p : Nat), p < nP s → ∀ (n q : Nat) (I1 : mI), F1 197 I1 I → q + n = p → rowIs I1 197 (prsP s p ++ prsQ s p q) → ∃ I', F1 197 I' I ∧ rowIs I' 197 (prsP s (p + 1)) ∧ am_X (am_cal (g + 1)) 45 11 [.ref 195, .int (nI (prsP s p ++ prsQ s p q).length), .int (nI p), .int (nI q)] [] (mS I1 J) = am_X (am_cal (g + 1)) 45 4 [.ref 195, .int (nI (prsP s (p + 1)).length), .int (nI (p + 1)), .null] [] (mS I' J) := by
    intro p hp n
    induction n with
    | zero =>
      intro q I1 h1 hq hr
      have e : q = p := by omega
      subst e
      refine ⟨I1, h1, hr, ?_⟩
      rw [e_45_11]
      simp only [n_lt (show q < 2 ^ 31 by omega) (show q < 2 ^ 31 by omega), n_ltf (Nat.le_refl q), nI_add, bq_s, mS_c, mS_l, mS_r, mS_i, mS_j, mS_pi, mS_pj, lt_st, bq_s, bV_s, bI_s, bJ_s, bA_s, nz_0, nc_0, nz_1, nc_1, nz_2, nc_2, nz_3, nc_3, nz_4, nc_4, nz_5, nc_5, nz_6, nc_6, nz_7, nc_7, nz_8, nc_8, nz_9, nc_9, nz_10, nc_10, nz_11, nc_11, nz_12, nc_12, if_true, if_false, eq_self, true_and, and_true, false_or, or_false, true_or, or_true, false_and, and_false, not_true, not_false_eq_true, ne_eq, ite_self, ite_not, ↓reduceIte, n_101, n_107, n_11]
      rfl
    | succ n ih =>
      intro q I1 h1 hq hr
      have h2 := fr h1
      have hqp : q < nP s := by omega
      have hlen : (prsP s p ++ prsQ s p q).length < 66 := by
        rw [List.length_append]
        have a1 := prsP_len (s := s) p
        have a2 := prsQ_len (s := s) (p := p) q
        have a3 := tri_t p (by omega) q (by omega)
        omega
      have i0c : (nI (p)).toNatClampNeg = p := nI_clamp (by omega)
      have i0z : (nI (p) < 0) = False := n_ge0 (by omega)
      have i0l : (12 ≤ p) = False := n_lef (by omega)
      have i1c : (nI (q)).toNatClampNeg = q := nI_clamp (by omega)
      have i1z : (nI (q) < 0) = False := n_ge0 (by omega)
      have i1l : (12 ≤ q) = False := n_lef (by omega)
      have v1 : I1 196 p = knw s p := by rw [h1 196 (by decide)]; exact hA p hp
      have v2 : I1 196 q = knw s q := by rw [h1 196 (by decide)]; exact hA q hqp
      rw [e_45_11]
      simp only [lc_195, lr_195_0, lr_195_1, lr_195_2, lc_196, ll_196, lc_197, ll_197, n_lt (show q < 2 ^ 31 by omega) (show p < 2 ^ 31 by omega), n_ltt (show q < p by omega), k69 W1 h2 hW hp, k69 W1 h2 hW hqp, i0c, i0z, i0l, i1c, i1z, i1l, v1, v2, n_lt (show (prsP s p ++ prsQ s p q).length < 2 ^ 31 by omega) (show 66 < 2 ^ 31 by decide), n_ltt hlen, in_r hlen (by decide), nI_clamp (show (prsP s p ++ prsQ s p q).length < 2 ^ 31 by omega), nI_add, show (100 ≤ 100 ∧ 100 < 200) = True from eq_true (by decide), ite_one, in_r2 hlen (by decide), bq_s, mS_c, mS_l, mS_r, mS_i, mS_j, mS_pi, mS_pj, lt_st, bq_s, bV_s, bI_s, bJ_s, bA_s, nz_0, nc_0, nz_1, nc_1, nz_2, nc_2, nz_3, nc_3, nz_4, nc_4, nz_5, nc_5, nz_6, nc_6, nz_7, nc_7, nz_8, nc_8, nz_9, nc_9, nz_10, nc_10, nz_11, nc_11, nz_12, nc_12, if_true, if_false, eq_self, true_and, and_true, false_or, or_false, true_or, or_true, false_and, and_false, not_true, not_false_eq_true, ne_eq, ite_self, ite_not, ↓reduceIte, n_101, n_107, n_11]
      have nog : ∀ I2 : mI, I2 = I1 → ¬ tell s p q → ∃ I', F1 197 I' I ∧ rowIs I' 197 (prsP s (p + 1)) ∧ am_X (am_cal (g + 1)) 45 11 [.ref 195, .int (nI (prsP s p ++ prsQ s p q).length), .int (nI p), .int (nI (q + 1))] [] (mS I2 J) = am_X (am_cal (g + 1)) 45 4 [.ref 195, .int (nI (prsP s (p + 1)).length), .int (nI (p + 1)), .null] [] (mS I' J) := by
        intro I2 e2 ht
        subst e2
        have := ih (q + 1) I2 h1 (by omega) (by rw [prsQ_f ht]; exact hr)
        rw [prsQ_f ht] at this
        exact this
      by_cases hp6 : pF s p 0 = nI 6
      · rw [if_pos hp6]
        exact nog I1 rfl (fun h => h.1 hp6)
      · rw [if_neg hp6]
        by_cases hq6 : pF s q 0 = nI 6
        · rw [if_pos hq6]
          exact nog I1 rfl (fun h => h.2.1 hq6)
        · rw [if_neg hq6]
          by_cases hk : knw s p = knw s q
          · rw [if_pos hk]
            exact nog I1 rfl (fun h => h.2.2 hk)
          · rw [if_neg hk]
            have ht : tell s p q := ⟨hp6, hq6, hk⟩
            have := ih (q + 1) (wI I1 197 (prsP s p ++ prsQ s p q).length (knw s p ^^^ knw s q)) (fun a ha => by rw [wI_F1 a ha, h1 a ha]) (by omega) (by rw [prsQ_t ht, ← List.append_assoc]; exact rowIs_app hr)
            rw [prsQ_t ht, ← List.append_assoc, List.length_append (bs := [knw s p ^^^ knw s q])] at this
            exact this
  have lp : ∀ (n p : Nat) (I1 : mI), F1 197 I1 I → p + n = nP s → rowIs I1 197 (prsP s p) → ∃ I', F1 197 I' I ∧ rowIs I' 197 (prsP s (nP s)) ∧ am_X (am_cal (g + 1)) 45 4 [.ref 195, .int (nI (prsP s p).length), .int (nI p), .null] [] (mS I1 J) = some (some (.int (nI (prsP s (nP s)).length)), mS I' J) := by
    intro n
    induction n with
    | zero =>
      intro p I1 h1 hp hr
      have h2 := fr h1
      have e : p = nP s := by omega
      subst e
      refine ⟨I1, h1, hr, ?_⟩
      rw [e_45_4]
      simp only [lc_195, lr_195_0, w_C W1, h2.ppl, hW.nP.2, n_lt (show nP s < 2 ^ 31 by omega) (show nP s < 2 ^ 31 by omega), n_ltf (Nat.le_refl _), bq_s, mS_c, mS_l, mS_r, mS_i, mS_j, mS_pi, mS_pj, lt_st, bq_s, bV_s, bI_s, bJ_s, bA_s, nz_0, nc_0, nz_1, nc_1, nz_2, nc_2, nz_3, nc_3, nz_4, nc_4, nz_5, nc_5, nz_6, nc_6, nz_7, nc_7, nz_8, nc_8, nz_9, nc_9, nz_10, nc_10, nz_11, nc_11, nz_12, nc_12, if_true, if_false, eq_self, true_and, and_true, false_or, or_false, true_or, or_true, false_and, and_false, not_true, not_false_eq_true, ne_eq, ite_self, ite_not, ↓reduceIte, n_101, n_107, n_11]
    | succ n ih =>
      intro p I1 h1 hp hr
      have h2 := fr h1
      have hpn : p < nP s := by omega
      obtain ⟨I2, hF2, hr2, he2⟩ := lq p hpn p 0 I1 h1 (by omega) (by rw [show prsQ s p 0 = [] from rfl, List.append_nil]; exact hr)
      rw [show prsQ s p 0 = [] from rfl, List.append_nil] at he2
      obtain ⟨I3, hF3, hr3, he3⟩ := ih (p + 1) I2 hF2 (by omega) hr2
      refine ⟨I3, hF3, hr3, ?_⟩
      rw [e_45_4]
      simp only [lc_195, lr_195_0, w_C W1, h2.ppl, hW.nP.2, n_lt (show p < 2 ^ 31 by omega) (show nP s < 2 ^ 31 by omega), n_ltt hpn, bq_s, mS_c, mS_l, mS_r, mS_i, mS_j, mS_pi, mS_pj, lt_st, bq_s, bV_s, bI_s, bJ_s, bA_s, nz_0, nc_0, nz_1, nc_1, nz_2, nc_2, nz_3, nc_3, nz_4, nc_4, nz_5, nc_5, nz_6, nc_6, nz_7, nc_7, nz_8, nc_8, nz_9, nc_9, nz_10, nc_10, nz_11, nc_11, nz_12, nc_12, if_true, if_false, eq_self, true_and, and_true, false_or, or_false, true_or, or_true, false_and, and_false, not_true, not_false_eq_true, ne_eq, ite_self, ite_not, ↓reduceIte, n_101, n_107, n_11]
      rw [he2, he3]
  obtain ⟨I', hF, hr, he⟩ := lp (nP s) 0 I (fun _ _ => rfl) (by omega) (fun i hi => by cases hi)
  refine ⟨I', hF, hr, ?_⟩
  rw [c_45 lc_195]
  exact he
theorem k46 {L : List Int32} (hr : rowIs I 197 L) (hL : L.length ≤ 66) {m : Nat} : am_cal (g + 1) 46 [.ref 195, .int (nI m), .int (nI L.length)] (mS I J) = some (some (.int (b2 (Tl L m))), mS I J) := by
  have lp : ∀ n k, k + n = L.length → (∀ i v, i < k → L[i]? = some v → ¬ v &&& nI m = 0) → am_X (am_cal g) 46 2 [.ref 195, .int (nI m), .int (nI L.length), .int (nI k)] [] (mS I J) = some (some (.int (b2 (Tl L m))), mS I J) := by
    intro n
    induction n with
    | zero =>
      intro k hk hb
      rw [e_46_2]
      simp only [n_lt (show k < 2 ^ 31 by omega) (show L.length < 2 ^ 31 by omega), n_ltf (show L.length ≤ k by omega), bq_s, mS_c, mS_l, mS_r, mS_i, mS_j, mS_pi, mS_pj, lt_st, bq_s, bV_s, bI_s, bJ_s, bA_s, nz_0, nc_0, nz_1, nc_1, nz_2, nc_2, nz_3, nc_3, nz_4, nc_4, nz_5, nc_5, nz_6, nc_6, nz_7, nc_7, nz_8, nc_8, nz_9, nc_9, nz_10, nc_10, nz_11, nc_11, nz_12, nc_12, if_true, if_false, eq_self, true_and, and_true, false_or, or_false, true_or, or_true, false_and, and_false, not_true, not_false_eq_true, ne_eq, ite_self, ite_not, ↓reduceIte, n_101, n_107, n_11]
      rw [b2_t]
      intro x hx
      obtain ⟨i, hi, e⟩ := List.getElem_of_mem hx
      exact hb i x (by omega) (by rw [List.getElem?_eq_getElem hi, e])
    | succ n ih =>
      intro k hk hb
      rw [e_46_2]
      have i0c : (nI (k)).toNatClampNeg = k := nI_clamp (by omega)
      have i0z : (nI (k) < 0) = False := n_ge0 (by omega)
      have i0l : (66 ≤ k) = False := n_lef (by omega)
      have hv := hr k (by omega)
      simp only [lc_195, lr_195_2, lc_197, ll_197, n_lt (show k < 2 ^ 31 by omega) (show L.length < 2 ^ 31 by omega), n_ltt (show k < L.length by omega), i0c, i0z, i0l, nI_add, bq_s, mS_c, mS_l, mS_r, mS_i, mS_j, mS_pi, mS_pj, lt_st, bq_s, bV_s, bI_s, bJ_s, bA_s, nz_0, nc_0, nz_1, nc_1, nz_2, nc_2, nz_3, nc_3, nz_4, nc_4, nz_5, nc_5, nz_6, nc_6, nz_7, nc_7, nz_8, nc_8, nz_9, nc_9, nz_10, nc_10, nz_11, nc_11, nz_12, nc_12, if_true, if_false, eq_self, true_and, and_true, false_or, or_false, true_or, or_true, false_and, and_false, not_true, not_false_eq_true, ne_eq, ite_self, ite_not, ↓reduceIte, n_101, n_107, n_11]
      by_cases hz : I 197 k &&& nI m = 0
      · rw [if_pos hz, b2_f (fun h => h (I 197 k) (List.mem_of_getElem? hv) hz)]
      · rw [if_neg hz]
        exact ih (k + 1) (by omega) (fun i v hi he => by
          by_cases e : i = k
          · subst e
            rw [hv] at he
            cases he
            exact hz
          · exact hb i v (by omega) he)
  rw [c_46 lc_195]
  exact lp L.length 0 (by omega) (fun i v hi => by omega)
theorem k44 (h : Rep I 1 s) (hW : WF s) : ∃ I', FC I' I ∧ am_cal (g + 3) 44 [.ref 195] (mS I J) = some (some (.int (nI (few s))), mS I' J) := by
  have h12 := hW.nP.1
  have h10 := hW.nD.1
  obtain ⟨I1, hF1, hA1, hr1⟩ := k41 (g := g) (J := J) h hW
  have h1 := FC.rep h hW (FC.k1 hF1)
  obtain ⟨I2, hF2, hR2, hr2⟩ := k45 (g := g) (J := J) h1 hW hA1
  have h2 := FC.rep h1 hW (fun a _ _ hc => hF2 a hc)
  have hlen : (prsP s (nP s)).length ≤ 66 := by
    have a1 := prsP_len (s := s) (nP s)
    have : ∀ k, k ≤ 12 → tri k ≤ 66 := by decide +kernel
    have := this (nP s) h12
    omega
  refine ⟨I2, (FC.k1 hF1).tr (fun a _ _ hc => hF2 a hc), ?_⟩
  obtain ⟨a1, a2, a3⟩ := all_t (nD s) (by omega)
  generalize hNe : 2 ^ nD s - 1 = N at a1 a2 a3
  have hfew : few s = asc s N N := by unfold few; rw [hNe]
  have hN : ∀ m, m < N → bc m < bc N := by rw [← hNe]; exact bc_lt (nD s) (by omega)
  have lp : ∀ n k, k + n = N → am_X (am_cal (g + 2)) 44 21 [.ref 195, .int (nI (prsP s (nP s)).length), .int (nI N), .int (nI (asc s N k)), .int (nI (bc (asc s N k))), .int (nI k), .null] [] (mS I2 J) = some (some (.int (nI (few s))), mS I2 J) := by
    intro n
    induction n with
    | zero =>
      intro k hk
      rw [e_44_21]
      simp only [n_lt (show k < 2 ^ 31 by omega) (show N < 2 ^ 31 by omega), n_ltf (show N ≤ k by omega), bq_s, mS_c, mS_l, mS_r, mS_i, mS_j, mS_pi, mS_pj, lt_st, bq_s, bV_s, bI_s, bJ_s, bA_s, nz_0, nc_0, nz_1, nc_1, nz_2, nc_2, nz_3, nc_3, nz_4, nc_4, nz_5, nc_5, nz_6, nc_6, nz_7, nc_7, nz_8, nc_8, nz_9, nc_9, nz_10, nc_10, nz_11, nc_11, nz_12, nc_12, if_true, if_false, eq_self, true_and, and_true, false_or, or_false, true_or, or_true, false_and, and_false, not_true, not_false_eq_true, ne_eq, ite_self, ite_not, ↓reduceIte, n_101, n_107, n_11]
      rw [hfew, show k = N by omega]
    | succ n ih =>
      intro k hk
      have ih := ih (k + 1) (by omega)
      have inv := asc_inv (s := s) hN k (by omega)
      have b1 := bc_le k (by omega)
      have b2' := bc_le (asc s N k) (by omega)
      rw [e_44_21]
      simp only [n_lt (show k < 2 ^ 31 by omega) (show N < 2 ^ 31 by omega), n_ltt (show k < N by omega), k271 (show k < 1024 by omega), n_lt (show bc k < 2 ^ 31 by omega) (show bc (asc s N k) < 2 ^ 31 by omega), k46 hR2 hlen, nI_add, bq_s, mS_c, mS_l, mS_r, mS_i, mS_j, mS_pi, mS_pj, lt_st, bq_s, bV_s, bI_s, bJ_s, bA_s, nz_0, nc_0, nz_1, nc_1, nz_2, nc_2, nz_3, nc_3, nz_4, nc_4, nz_5, nc_5, nz_6, nc_6, nz_7, nc_7, nz_8, nc_8, nz_9, nc_9, nz_10, nc_10, nz_11, nc_11, nz_12, nc_12, if_true, if_false, eq_self, true_and, and_true, false_or, or_false, true_or, or_true, false_and, and_false, not_true, not_false_eq_true, ne_eq, ite_self, ite_not, ↓reduceIte, n_101, n_107, n_11]
      by_cases hb : bc k < bc (asc s N k)
      · rw [if_pos hb]
        by_cases hT : Tl (prsP s (nP s)) k
        · have e : asc s N (k + 1) = k := if_pos ⟨hb, hT⟩
          rw [e] at ih
          rw [if_b2t hT]
          exact ih
        · have e : asc s N (k + 1) = asc s N k := if_neg (fun h => hT h.2)
          rw [e] at ih
          rw [if_b2f hT]
          exact ih
      · have e : asc s N (k + 1) = asc s N k := if_neg (fun h => hb h.1)
        rw [e] at ih
        rw [if_neg hb]
        exact ih
  rw [c_44 lc_195]
  simp only [hr1, hr2, lc_195, lr_195_0, w_C W1, h2.dds, hW.nD.2, a1, bq_s, mS_c, mS_l, mS_r, mS_i, mS_j, mS_pi, mS_pj, lt_st, bq_s, bV_s, bI_s, bJ_s, bA_s, nz_0, nc_0, nz_1, nc_1, nz_2, nc_2, nz_3, nc_3, nz_4, nc_4, nz_5, nc_5, nz_6, nc_6, nz_7, nc_7, nz_8, nc_8, nz_9, nc_9, nz_10, nc_10, nz_11, nc_11, nz_12, nc_12, if_true, if_false, eq_self, true_and, and_true, false_or, or_false, true_or, or_true, false_and, and_false, not_true, not_false_eq_true, ne_eq, ite_self, ite_not, ↓reduceIte, n_101, n_107, n_11]
  have := lp N 0 (by omega)
  rw [show asc s N 0 = N from rfl, a2] at this
  exact this
theorem k116 (h : Rep I 1 s) (hW : WF s) : ∃ I', FC I' I ∧ am_cal (g + 4) 116 [.ref 0, .int x] (mS I J) = some (some (.int (v_few s x)), mS I' J) := by
  rw [c_116 lc_0]
  unfold v_few
  by_cases h1 : x < 0
  · refine ⟨I, FC.rf, ?_⟩
    rw [if_pos h1, if_neg (fun e => by rw [e] at h1; exact absurd h1 (by decide +kernel)), if_neg (fun e => by rw [e] at h1; exact absurd h1 (by decide +kernel))]
  · by_cases h2 : nI 1 < x
    · refine ⟨I, FC.rf, ?_⟩
      rw [if_neg h1, if_pos h2, if_neg (fun e => by rw [e] at h2; exact absurd h2 (by decide +kernel)), if_neg (fun e => by rw [e] at h2; exact absurd h2 (by decide +kernel))]
    · have h10 := hW.nD.1
      have hm := few_min hW
      have ha := (all_t (nD s) (by omega)).2.2
      obtain ⟨I', hF, hr⟩ := k44 (g := g) (J := J) h hW
      refine ⟨I', hF, ?_⟩
      rw [if_neg h1, if_neg h2]
      simp only [lc_0, lr_0_6, hr, k271 (show few s < 1024 by have := hm.1; omega), bq_s, mS_c, mS_l, mS_r, mS_i, mS_j, mS_pi, mS_pj, lt_st, bq_s, bV_s, bI_s, bJ_s, bA_s, nz_0, nc_0, nz_1, nc_1, nz_2, nc_2, nz_3, nc_3, nz_4, nc_4, nz_5, nc_5, nz_6, nc_6, nz_7, nc_7, nz_8, nc_8, nz_9, nc_9, nz_10, nc_10, nz_11, nc_11, nz_12, nc_12, if_true, if_false, eq_self, true_and, and_true, false_or, or_false, true_or, or_true, false_and, and_false, not_true, not_false_eq_true, ne_eq, ite_self, ite_not, ↓reduceIte, n_101, n_107, n_11]
      have hi : i2 x := by rw [← i2_in]; exact ⟨by rw [← n_i0]; exact h1, h2⟩
      rcases hi with rfl | rfl <;> simp only [nn_0_1, nn_0_2, nn_0_3, nn_0_4, nn_0_5, nn_0_6, nn_0_7, nn_0_8, nn_1_0, nn_1_2, nn_1_3, nn_1_4, nn_1_5, nn_1_6, nn_1_7, nn_1_8, nn_2_0, nn_2_1, nn_2_3, nn_2_4, nn_2_5, nn_2_6, nn_2_7, nn_2_8, nn_3_0, nn_3_1, nn_3_2, nn_3_4, nn_3_5, nn_3_6, nn_3_7, nn_3_8, nn_4_0, nn_4_1, nn_4_2, nn_4_3, nn_4_5, nn_4_6, nn_4_7, nn_4_8, nn_5_0, nn_5_1, nn_5_2, nn_5_3, nn_5_4, nn_5_6, nn_5_7, nn_5_8, nn_6_0, nn_6_1, nn_6_2, nn_6_3, nn_6_4, nn_6_5, nn_6_7, nn_6_8, nn_7_0, nn_7_1, nn_7_2, nn_7_3, nn_7_4, nn_7_5, nn_7_6, nn_7_8, nn_8_0, nn_8_1, nn_8_2, nn_8_3, nn_8_4, nn_8_5, nn_8_6, nn_8_7, nq_0, nq_1, nq_2, nq_3, nq_4, nq_5, nq_6, nq_7, nq_8, bq_s, mS_c, mS_l, mS_r, mS_i, mS_j, mS_pi, mS_pj, lt_st, bq_s, bV_s, bI_s, bJ_s, bA_s, nz_0, nc_0, nz_1, nc_1, nz_2, nc_2, nz_3, nc_3, nz_4, nc_4, nz_5, nc_5, nz_6, nc_6, nz_7, nc_7, nz_8, nc_8, nz_9, nc_9, nz_10, nc_10, nz_11, nc_11, nz_12, nc_12, if_true, if_false, eq_self, true_and, and_true, false_or, or_false, true_or, or_true, false_and, and_false, not_true, not_false_eq_true, ne_eq, ite_self, ite_not, ↓reduceIte, n_101, n_107, n_11]
end C5
