/-! ===== what is written of a COND; values ===== -/
abbrev PO : Type := Nat × Nat × Nat × Nat
def eC (o : PO) : Int32 := if o.1 = 0 then nI ((o.2.1 * 16384 + o.2.2.1) * 16384 + o.2.2.2) else if o.1 = 1 then Int32.ofInt (-1) else if o.1 = 2 then Int32.ofInt (-2) else Int32.ofInt (-3)
def eM (o : PO) : List Int32 := if o.1 = 0 then [nI o.2.2.1, nI o.2.2.2, nI (10080 + o.2.1)] else if o.1 = 1 then [nI 10010] else if o.1 = 2 then [nI 10011] else [nI 10012]
def eMs : List PO → List Int32
  | [] => []
  | o :: l => eM o ++ eMs l
def nx (T : Nat → Nat) (n : Nat) (t : Tok) : Tok := lx T n t.2
def fnd (T : Nat → Nat) (t : Tok) : List (List Nat) → Nat → Option Nat
  | [], _ => none
  | w :: ws, p => if wdW T t w then some p else fnd T t ws (p + 1)
def opd (T : Nat → Nat) (n : Nat) (t : Tok) : Option Nat := if t.1 < n ∧ dgt (T t.1) then (if t.2 - t.1 ≤ 4 then some (nvT T t) else none) else (match fnd T t (txW 11) 0 with
  | some j => some (10000 + j)
  | none => none)
def CdC (I : mI) (m : Nat) (all : List PO) : Prop := I 200 4 = nI m ∧ I 203 (m + 1) = nI all.length ∧ ∀ j, j < all.length → I 204 j = eC (all.getD j (0, 0, 0, 0))
def CdM (I : mI) (code : List Int32) : Prop := I 229 11 = nI code.length ∧ ∀ j, j < code.length → I 234 j = code.getD j 0
abbrev FrC (I' I : mI) (m : Nat) : Prop := (∀ a, a ≠ 199 → a ≠ 203 → a ≠ 204 → I' a = I a) ∧ ∀ j, j ≠ m + 1 → I' 203 j = I 203 j
abbrev FrM (I' I : mI) : Prop := (∀ a, a ≠ 229 → a ≠ 234 → I' a = I a) ∧ ∀ j, j ≠ 8 → j ≠ 9 → j ≠ 11 → j ≠ 13 → I' 229 j = I 229 j
section J6s
variable {I I' : mI} {J : mJ} {d k n q p i c m a e b L j : Nat} {x y z u v : Int32} {T : Nat → Nat} {t : Tok} {w cs : List Nat} {ws : List (List Nat)} {f : Option Nat} {xs : Nat → Int32} {all : List PO} {o : PO} {code : List Int32}
theorem FrC.rf : FrC I I m := ⟨fun _ _ _ _ => rfl, fun _ _ => rfl⟩
theorem FrC.tr {I1 : mI} (h : FrC I' I1 m) (h2 : FrC I1 I m) : FrC I' I m := ⟨fun a b c e => (h.1 a b c e).trans (h2.1 a b c e), fun j c => (h.2 j c).trans (h2.2 j c)⟩
theorem FrC.fr (h : FR I' I) : FrC I' I m := ⟨fun a b _ _ => h a b, fun j _ => by rw [h 203 (by decide)]⟩
theorem FrM.rf : FrM I I := ⟨fun _ _ _ => rfl, fun _ _ _ _ _ => rfl⟩
theorem FrM.tr {I1 : mI} (h : FrM I' I1) (h2 : FrM I1 I) : FrM I' I := ⟨fun a b c => (h.1 a b c).trans (h2.1 a b c), fun j a b c e => (h.2 j a b c e).trans (h2.2 j a b c e)⟩
theorem FrM.fn (h : FN I' I) : FrM I' I := ⟨fun a b _ => h.1 a b, fun j a b _ _ => h.2 j a b⟩
theorem CdC.fr (h : CdC I m all) (hf : FR I' I) : CdC I' m all := by
  obtain ⟨a, b, c⟩ := h
  exact ⟨by rw [hf 200 (by decide)]; exact a, by rw [hf 203 (by decide)]; exact b, fun j hj => by rw [hf 204 (by decide)]; exact c j hj⟩
theorem CdM.fn (h : CdM I code) (hf : FN I' I) : CdM I' code := by
  obtain ⟨a, b⟩ := h
  exact ⟨by rw [hf.2 11 (by decide) (by decide)]; exact a, fun j hj => by rw [hf.1 234 (by decide)]; exact b j hj⟩
theorem TxC.fc (h : TxC I T n) (hf : FrC I' I m) : TxC I' T n := fun k hk => by rw [hf.1 198 (by decide) (by decide) (by decide)]; exact h k hk
theorem TxM.fm (h : TxM I T n) (hf : FrM I' I) : TxM I' T n := ⟨by rw [hf.2 7 (by decide) (by decide) (by decide) (by decide)]; exact h.1, fun k hk => by rw [hf.1 233 (by decide) (by decide)]; exact h.2 k hk⟩
theorem FX.fc (h : FX L xs I) (hf : FrC I' I m) : FX L xs I' := fun a ha => by rw [hf.1 a (by omega) (by omega) (by omega)]; exact h a ha
theorem k12 (hC : CdC I m all) (hm : m < 10) (hl : all.length < 200) : ∃ I', FrC I' I m ∧ I' 199 = I 199 ∧ CdC I' m (all ++ [o]) ∧ am_cal (d + 1) 12 [.ref 200, .int (eC o)] (mS I J) = some (none, mS I' J) := by
  obtain ⟨h4, hs, hc⟩ := hC
  have i0c : (nI (m + 1)).toNatClampNeg = m + 1 := nI_clamp (by omega)
  have i0z : (nI (m + 1) < 0) = False := n_ge0 (by omega)
  have i0l : (11 ≤ m + 1) = False := n_lef (by omega)
  have i1c : (nI (all.length)).toNatClampNeg = all.length := nI_clamp (by omega)
  have i1z : (nI (all.length) < 0) = False := n_ge0 (by omega)
  have i1l : (200 ≤ all.length) = False := n_lef (by omega)
  have l204 : (100 ≤ 100 ∧ 100 < 200) = True := eq_true (by decide)
  refine ⟨wI (wI I 204 all.length (eC o)) 203 (m + 1) (nI (all.length + 1)), ⟨fun a b c e => by rw [wI_F1 a c, wI_F1 a e], fun j hj => by rw [wI_nk hj, wI_ne (by decide)]⟩, by rw [wI_F1 199 (by decide), wI_F1 199 (by decide)], ⟨by rw [wI_ne (by decide), wI_ne (by decide)]; exact h4, by rw [wI_eq]; simp, fun j hj => ?_⟩, ?_⟩
  · rw [wI_ne (by decide)]
    simp only [List.length_append, List.length_singleton] at hj
    by_cases e : j = all.length
    · subst e
      rw [wI_eq, List.getD_eq_getElem?_getD, List.getElem?_append_right (Nat.le_refl _), Nat.sub_self]
      rfl
    · rw [wI_nk e, hc j (by omega), List.getD_eq_getElem?_getD, List.getD_eq_getElem?_getD, List.getElem?_append_left (by omega)]
  · have g4 : wI I 204 all.length (eC o) 200 4 = nI m := by rw [wI_ne (by decide)]; exact h4
    rw [c_12 lc_200]
    simp only [lc_200, lr_200_2, lr_200_3, lc_203, ll_203, lc_204, ll_204, h4, nI_add, i0c, i0z, i0l, hs, l204, n_lt (show all.length < 2 ^ 31 by omega) (show 200 < 2 ^ 31 by decide), eq_true hl, i1c, i1z, i1l, g4, bq_s, mS_c, mS_l, mS_r, mS_i, mS_j, mS_pi, mS_pj, lt_st, bq_s, bV_s, bI_s, bJ_s, bA_s, nz_0, nc_0, nz_1, nc_1, nz_2, nc_2, nz_3, nc_3, nz_4, nc_4, nz_5, nc_5, nz_6, nc_6, nz_7, nc_7, nz_8, nc_8, nz_9, nc_9, nz_10, nc_10, nz_11, nc_11, nz_12, nc_12, if_true, if_false, eq_self, true_and, and_true, false_or, or_false, true_or, or_true, false_and, and_false, not_true, not_false_eq_true, ne_eq, ite_self, ite_not, ↓reduceIte, n_101, n_107, n_11]
theorem m183 (hC : CdM I code) (hw : I 229 13 = nI 0) (hl : code.length < 200) : ∃ I', FrM I' I ∧ (I' 229 8 = I 229 8 ∧ I' 229 9 = I 229 9 ∧ I' 229 13 = nI 0) ∧ CdM I' (code ++ [x]) ∧ am_cal (d + 1) 183 [.ref 229, .int x] (mS I J) = some (none, mS I' J) := by
  obtain ⟨h1, hc⟩ := hC
  have i1c : (nI (code.length)).toNatClampNeg = code.length := nI_clamp (by omega)
  have i1z : (nI (code.length) < 0) = False := n_ge0 (by omega)
  have i1l : (200 ≤ code.length) = False := n_lef (by omega)
  refine ⟨wI (wI I 234 code.length x) 229 11 (nI (code.length + 1)), ⟨fun a b c => by rw [wI_F1 a b, wI_F1 a c], fun j _ _ hj _ => by rw [wI_nk hj, wI_ne (by decide)]⟩, ⟨by rw [wI_nk (by decide), wI_ne (by decide)], by rw [wI_nk (by decide), wI_ne (by decide)], by rw [wI_nk (by decide), wI_ne (by decide)]; exact hw⟩, ⟨by rw [wI_eq]; simp, fun j hj => ?_⟩, ?_⟩
  · rw [wI_ne (by decide)]
    simp only [List.length_append, List.length_singleton] at hj
    by_cases e : j = code.length
    · subst e
      rw [wI_eq, List.getD_eq_getElem?_getD, List.getElem?_append_right (Nat.le_refl _), Nat.sub_self]
      rfl
    · rw [wI_nk e, hc j (by omega), List.getD_eq_getElem?_getD, List.getD_eq_getElem?_getD, List.getElem?_append_left (by omega)]
  · have g4 : wI I 234 code.length x 229 11 = nI code.length := by rw [wI_ne (by decide)]; exact h1
    rw [c_183 lc_229]
    simp only [lc_229, hw, z_t, lr_229_5, lc_234, ll_234, h1, i1c, i1z, i1l, g4, nI_add, lc_229, lr_229_0, lc_230, ll_230, bq_s, mS_c, mS_l, mS_r, mS_i, mS_j, mS_pi, mS_pj, lt_st, bq_s, bV_s, bI_s, bJ_s, bA_s, nz_0, nc_0, nz_1, nc_1, nz_2, nc_2, nz_3, nc_3, nz_4, nc_4, nz_5, nc_5, nz_6, nc_6, nz_7, nc_7, nz_8, nc_8, nz_9, nc_9, nz_10, nc_10, nz_11, nc_11, nz_12, nc_12, if_true, if_false, eq_self, true_and, and_true, false_or, or_false, true_or, or_true, false_and, and_false, not_true, not_false_eq_true, ne_eq, ite_self, ite_not, ↓reduceIte]
theorem wr_s (hw : I 229 13 = nI 1) : wI I 229 13 (nI 1) = I := by
  funext c j
  unfold wI
  by_cases h : c = 229 ∧ j = 13
  · rw [if_pos h, h.1, h.2, hw]
  · rw [if_neg h]
/-- once wrong, nothing is written or read on -/
theorem m183w (hw : I 229 13 = nI 1) : am_cal (d + 1) 183 [.ref 229, .int x] (mS I J) = some (none, mS I J) := by
  rw [c_183 lc_229]
  simp only [lc_229, hw, z_f, lc_229, lr_229_0, lc_230, ll_230, bq_s, mS_c, mS_l, mS_r, mS_i, mS_j, mS_pi, mS_pj, lt_st, bq_s, bV_s, bI_s, bJ_s, bA_s, nz_0, nc_0, nz_1, nc_1, nz_2, nc_2, nz_3, nc_3, nz_4, nc_4, nz_5, nc_5, nz_6, nc_6, nz_7, nc_7, nz_8, nc_8, nz_9, nc_9, nz_10, nc_10, nz_11, nc_11, nz_12, nc_12, if_true, if_false, eq_self, true_and, and_true, false_or, or_false, true_or, or_true, false_and, and_false, not_true, not_false_eq_true, ne_eq, ite_self, ite_not, ↓reduceIte]
theorem m182w (hw : I 229 13 = nI 1) : am_cal (d + 1) 182 [.ref 229, .int x] (mS I J) = some (none, mS I J) := by
  rw [c_182 lc_229]
  simp only [lc_229, hw, z_f, wr_s hw, lc_229, lr_229_0, lc_230, ll_230, bq_s, mS_c, mS_l, mS_r, mS_i, mS_j, mS_pi, mS_pj, lt_st, bq_s, bV_s, bI_s, bJ_s, bA_s, nz_0, nc_0, nz_1, nc_1, nz_2, nc_2, nz_3, nc_3, nz_4, nc_4, nz_5, nc_5, nz_6, nc_6, nz_7, nc_7, nz_8, nc_8, nz_9, nc_9, nz_10, nc_10, nz_11, nc_11, nz_12, nc_12, if_true, if_false, eq_self, true_and, and_true, false_or, or_false, true_or, or_true, false_and, and_false, not_true, not_false_eq_true, ne_eq, ite_self, ite_not, ↓reduceIte]
theorem m182f (hw : I 229 13 = nI 0) : am_cal (d + 1) 182 [.ref 229, .int (nI 0)] (mS I J) = some (none, mS (wI I 229 13 (nI 1)) J) := by
  rw [c_182 lc_229]
  simp only [lc_229, hw, z_t, wI_eq, z_f, lc_229, lr_229_0, lc_230, ll_230, bq_s, mS_c, mS_l, mS_r, mS_i, mS_j, mS_pi, mS_pj, lt_st, bq_s, bV_s, bI_s, bJ_s, bA_s, nz_0, nc_0, nz_1, nc_1, nz_2, nc_2, nz_3, nc_3, nz_4, nc_4, nz_5, nc_5, nz_6, nc_6, nz_7, nc_7, nz_8, nc_8, nz_9, nc_9, nz_10, nc_10, nz_11, nc_11, nz_12, nc_12, if_true, if_false, eq_self, true_and, and_true, false_or, or_false, true_or, or_true, false_and, and_false, not_true, not_false_eq_true, ne_eq, ite_self, ite_not, ↓reduceIte]
theorem m182t (hT : okT T n) (hX : TxM I T n) (hL : LxM I t) (ht : okK n t) (hw : I 229 13 = nI 0) : ∃ I', FN I' I ∧ LxM I' (nx T n t) ∧ am_cal (d + 4) 182 [.ref 229, .int (nI 1)] (mS I J) = some (none, mS I' J) := by
  have hs : wI I 229 13 (nI 0) = I := by
    funext c j
    unfold wI
    by_cases h : c = 229 ∧ j = 13
    · rw [if_pos h, h.1, h.2, hw]
    · rw [if_neg h]
  obtain ⟨I', a1, a2, a3⟩ := m181 (d := d) (J := J) hT hX hL.2 ht.2.1
  refine ⟨I', a1, a2, ?_⟩
  rw [c_182 lc_229]
  simp only [lc_229, hw, z_t, z_f, hs, a3, lc_229, lr_229_0, lc_230, ll_230, bq_s, mS_c, mS_l, mS_r, mS_i, mS_j, mS_pi, mS_pj, lt_st, bq_s, bV_s, bI_s, bJ_s, bA_s, nz_0, nc_0, nz_1, nc_1, nz_2, nc_2, nz_3, nc_3, nz_4, nc_4, nz_5, nc_5, nz_6, nc_6, nz_7, nc_7, nz_8, nc_8, nz_9, nc_9, nz_10, nc_10, nz_11, nc_11, nz_12, nc_12, if_true, if_false, eq_self, true_and, and_true, false_or, or_false, true_or, or_true, false_and, and_false, not_true, not_false_eq_true, ne_eq, ite_self, ite_not, ↓reduceIte]
theorem plc_fnd : ∀ (ws : List (List Nat)) p, plc T t ws p = fI (fnd T t ws p)
  | [], _ => rfl
  | w :: ws, p => by
    show (if wdW T t w then nI p else plc T t ws (p + 1)) = fI (if wdW T t w then some p else fnd T t ws (p + 1))
    by_cases h : wdW T t w
    · rw [if_pos h, if_pos h]; rfl
    · rw [if_neg h, if_neg h, plc_fnd ws (p + 1)]
theorem fnd_lt : ∀ (ws : List (List Nat)) p j, fnd T t ws p = some j → p ≤ j ∧ j < p + ws.length
  | [], _, _, h => by cases h
  | w :: ws, p, j, h => by
    have h' : (if wdW T t w then some p else fnd T t ws (p + 1)) = some j := h
    simp only [List.length_cons]
    by_cases hh : wdW T t w
    · rw [if_pos hh] at h'; cases h'; omega
    · rw [if_neg hh] at h'
      have := fnd_lt ws (p + 1) j h'
      omega
theorem fnd_nm (ht : okK n t) (hi : i < 12) : ∀ (ws : List (List Nat)) p, (∀ w, w ∈ ws → w ∈ txW i) → (t.1 < n ∧ ltr (T t.1)) ∨ fnd T t ws p = none
  | [], _, _ => Or.inr rfl
  | w :: ws, p, h => by
    by_cases hh : wdW T t w
    · exact Or.inl (wdW_nm ht hi (h w (List.mem_cons_self ..)) hh)
    · rcases fnd_nm ht hi ws (p + 1) (fun w hw => h w (List.mem_cons_of_mem _ hw)) with h' | h'
      · exact Or.inl h'
      · refine Or.inr ?_
        show (if wdW T t w then _ else _) = _
        rw [if_neg hh]; exact h'
theorem opd_lt (hd : ∀ i, t.1 ≤ i → i < t.2 → dgt (T t.1) → T i ≤ 57) (h : opd T n t = some i) : i < 10006 := by
  unfold opd at h
  by_cases h1 : t.1 < n ∧ dgt (T t.1)
  · rw [if_pos h1] at h
    by_cases h2 : t.2 - t.1 ≤ 4
    · rw [if_pos h2] at h
      cases h
      have hb : ∀ j, j < min 4 (t.2 - t.1) → T (t.1 + j) ≤ 57 := fun j hj => hd (t.1 + j) (by omega) (by omega) h1.2
      have := nvU_lt T t.1 hb
      have h4 : 10 ^ (min 4 (t.2 - t.1)) ≤ 10 ^ 4 := Nat.pow_le_pow_right (by decide) (by omega)
      unfold nvT
      omega
    · rw [if_neg h2] at h; cases h
  · rw [if_neg h1] at h
    cases hf : fnd T t (txW 11) 0 with
    | none => rw [hf] at h; cases h
    | some j =>
      rw [hf] at h
      cases h
      have := fnd_lt _ _ _ hf
      have hl : (txW 11).length = 6 := by decide
      omega
theorem tk3 (hT : okT T n) : (tkW T n t = Int32.ofInt (-3)) = ((t.1 < n ∧ dgt (T t.1)) ∧ t.2 - t.1 ≤ 4) := by
  unfold tkW
  by_cases h1 : t.1 < n
  · rw [if_pos h1]
    have hb := hT.2 _ h1
    by_cases h2 : ltr (T t.1)
    · rw [if_pos h2]; exact propext ⟨fun h => absurd h (by decide), fun h => by have := h.1.2; omega⟩
    · rw [if_neg h2]
      by_cases h3 : dgt (T t.1)
      · rw [if_pos h3]
        by_cases h4 : t.2 - t.1 ≤ 4
        · rw [if_pos h4]; exact propext ⟨fun _ => ⟨⟨h1, h3⟩, h4⟩, fun _ => rfl⟩
        · rw [if_neg h4]; exact propext ⟨fun h => absurd h (by decide), fun h => absurd h.2 h4⟩
      · rw [if_neg h3]
        refine propext ⟨fun h => ?_, fun h => absurd h.1.2 h3⟩
        have h5 : ¬ nI (T t.1) < 0 := nI_pos (by omega)
        rw [h] at h5
        exact absurd (show Int32.ofInt (-3) < 0 by decide) h5
  · rw [if_neg h1]
    exact propext ⟨fun h => absurd h (by decide), fun h => absurd h.1.1 h1⟩
theorem k26 (hF : FX L xs I) (hT : okT T n) (hX : TxC I T n) (hL : LxC I T n t) (ht : okK n t) : am_cal (d + 2) 26 [.ref 199] (mS I J) = some (some (.int (fI (opd T n t))), mS I J) := by
  obtain ⟨l2, l3, l4, l5, l6⟩ := id hL
  have h30 := k30 (d := d) (J := J) hF hT hX hL ht (show 11 < 12 by decide)
  rw [c_26 lc_199]
  simp only [lc_199, l5, tk3 hT, nm_iff hT, bq_s, mS_c, mS_l, mS_r, mS_i, mS_j, mS_pi, mS_pj, lt_st, bq_s, bV_s, bI_s, bJ_s, bA_s, nz_0, nc_0, nz_1, nc_1, nz_2, nc_2, nz_3, nc_3, nz_4, nc_4, nz_5, nc_5, nz_6, nc_6, nz_7, nc_7, nz_8, nc_8, nz_9, nc_9, nz_10, nc_10, nz_11, nc_11, nz_12, nc_12, if_true, if_false, eq_self, true_and, and_true, false_or, or_false, true_or, or_true, false_and, and_false, not_true, not_false_eq_true, ne_eq, ite_self, ite_not, ↓reduceIte, n_101, n_107, n_11]
  unfold opd
  by_cases h1 : t.1 < n ∧ dgt (T t.1)
  · rw [if_pos h1]
    have hnl : ¬ (t.1 < n ∧ ltr (T t.1)) := fun h => by have := h.2; have := h1.2; omega
    by_cases h2 : t.2 - t.1 ≤ 4
    · rw [if_pos ⟨h1, h2⟩, if_pos h2, l6 h1.1 h1.2]; rfl
    · rw [if_neg (fun h => h2 h.2), if_neg h2, if_neg hnl, if_pos (by decide)]; rfl
  · rw [if_neg h1, if_neg (fun h => h1 h.1)]
    by_cases h3 : t.1 < n ∧ ltr (T t.1)
    · rw [if_pos h3, show (4000011 : Nat) = 4000000 + 11 from rfl, h30, bI_s, plc_fnd]
      cases hf : fnd T t (txW 11) 0 with
      | none => rw [if_pos (show fI none < 0 by decide)]; rfl
      | some j =>
        have hj := fnd_lt _ _ _ hf
        have hl : (txW 11).length = 6 := by decide
        rw [if_neg (show ¬ fI (some j) < 0 from nI_pos (show j < 2 ^ 31 by omega))]
        show some (some (Value.int (nI 10000 + nI j)), mS I J) = _
        rw [nI_add]; rfl
    · have hf : fnd T t (txW 11) 0 = none := by
        rcases fnd_nm (T := T) ht (show 11 < 12 by decide) (txW 11) 0 (fun w hw => hw) with h | h
        · exact absurd h h3
        · exact h
      rw [if_neg h3, if_pos (by decide), hf]; rfl
end J6s
