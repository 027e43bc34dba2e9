/-! ===== a CLAUSE: the class ===== -/
abbrev Cl : Type := Nat × Nat × Nat × List PO
def opsOf : List Cl → List PO
  | [] => []
  | c :: l => c.2.2.2 ++ opsOf l
abbrev smc (T : Nat → Nat) (n : Nat) (t : Tok) : Prop := t.1 < n ∧ T t.1 = 59
def clN (T : Nat → Nat) (n m : Nat) (t : Tok) : Sum Nat (Tok × Cl) := match fnd T t (txW 6) 0 with
  | none => .inl t.1
  | some key => if m < 10 then (match fnd T (nx T n t) (txW (vtx key)) 0 with
    | none => .inl (nx T n t).1
    | some v => if wdW T (nx T n (nx T n t)) [105, 102] then (match anyG T n (subK T n 3) (nx T n (nx T n (nx T n t))) with
        | .inl p => .inl p
        | .inr (t3, o) => if smc T n t3 then .inr (nx T n t3, (key, v, 1, o)) else .inl t3.1)
      else if smc T n (nx T n (nx T n t)) then .inr (nx T n (nx T n (nx T n t)), (key, v, 0, [])) else .inl (nx T n (nx T n t)).1) else .inl t.1
def LwC (I : mI) (cl : List Cl) : Prop := I 200 4 = nI cl.length ∧ (∀ i, i < cl.length → I 201 i = nI (cl.getD i (0, 0, 0, [])).1 ∧ I 202 i = nI (cl.getD i (0, 0, 0, [])).2.1) ∧ (∀ i, i ≤ cl.length → I 203 i = nI (opsOf (cl.take i)).length) ∧ (cl.length < 10 → I 203 (cl.length + 1) = nI (opsOf cl).length) ∧ ∀ j, j < (opsOf cl).length → I 204 j = eC ((opsOf cl).getD j (0, 0, 0, 0))
abbrev FrL (I' I : mI) : Prop := ∀ a, (a < 199 ∨ 204 < a) → I' a = I a
def CRs (T : Nat → Nat) (n : Nat) (I : mI) (J : mJ) (cl : List Cl) (r : am_R) : Sum Nat (Tok × Cl) → Prop
  | .inl p => ∃ I', FrL I' I ∧ I' 199 3 = nI p ∧ r = some (some (.int (nI 0)), mS I' J)
  | .inr (t', c) => ∃ I', FrL I' I ∧ LxC I' T n t' ∧ LwC I' (cl ++ [c]) ∧ r = some (some (.int (nI 1)), mS I' J)
section J10s
variable {I I' : mI} {J : mJ} {d k n q p i c m a e b L j : Nat} {x y z u v : Int32} {T : Nat → Nat} {t t' : Tok} {w cs : List Nat} {xs : Nat → Int32} {all o o' : List PO} {cl : List Cl}
theorem opsOf_app : ∀ (a b : List Cl), opsOf (a ++ b) = opsOf a ++ opsOf b
  | [], _ => rfl
  | x :: a, b => by
    show x.2.2.2 ++ opsOf (a ++ b) = (x.2.2.2 ++ opsOf a) ++ opsOf b
    rw [opsOf_app a b, List.append_assoc]
theorem FrL.tr {I1 : mI} (h : FrL I' I1) (h2 : FrL I1 I) : FrL I' I := fun a b => (h a b).trans (h2 a b)
theorem FrL.fr (h : FR I' I) : FrL I' I := fun a b => h a (by omega)
theorem FrL.fc (h : FrC I' I m) : FrL I' I := fun a b => h.1 a (by omega) (by omega) (by omega)
theorem LwC.fr (h : LwC I cl) (hf : FR I' I) : LwC I' cl := by
  obtain ⟨a, b, c, d, e⟩ := h
  exact ⟨by rw [hf 200 (by decide)]; exact a, fun i hi => by rw [hf 201 (by decide), hf 202 (by decide)]; exact b i hi, fun i hi => by rw [hf 203 (by decide)]; exact c i hi, fun hi => by rw [hf 203 (by decide)]; exact d hi, fun j hj => by rw [hf 204 (by decide)]; exact e j hj⟩
theorem gD_l {α : Type} {a b : List α} {x : α} (h : i < a.length) : (a ++ b).getD i x = a.getD i x := by
  rw [List.getD_eq_getElem?_getD, List.getD_eq_getElem?_getD, List.getElem?_append_left h]
theorem gD_e {α : Type} {a : List α} {x y : α} : (a ++ [y]).getD a.length x = y := by
  rw [List.getD_eq_getElem?_getD, List.getElem?_append_right (Nat.le_refl _), Nat.sub_self]
  rfl
/-- the CLAUSE is closed -/
theorem k13 (h : LwC I cl) (hm : cl.length < 10) {I1 : mI} (hfr : FrC I1 I cl.length) (hC : CdC I1 cl.length (opsOf cl ++ o)) {key v has : Nat} : ∃ I', (∀ a, (a < 200 ∨ 204 < a) → I' a = I1 a) ∧ LwC I' (cl ++ [(key, v, has, o)]) ∧ am_cal (d + 1) 13 [.ref 200, .int (nI key), .int (nI v)] (mS I1 J) = some (none, mS I' J) := by
  obtain ⟨a1, a2, a3, a4, a5⟩ := h
  obtain ⟨c1, c2, c3⟩ := hC
  generalize hml : cl.length = m at *
  have i0c : (nI (m)).toNatClampNeg = m := nI_clamp (by omega)
  have i0z : (nI (m) < 0) = False := n_ge0 (by omega)
  have i0l : (10 ≤ m) = False := n_lef (by omega)
  have e1 : ∀ i, i < m → I1 201 i = nI (cl.getD i (0, 0, 0, [])).1 ∧ I1 202 i = nI (cl.getD i (0, 0, 0, [])).2.1 := fun i hi => by
    rw [hfr.1 201 (by decide) (by decide) (by decide), hfr.1 202 (by decide) (by decide) (by decide)]; exact a2 i hi
  have e3 : ∀ i, i ≤ m → I1 203 i = nI (opsOf (cl.take i)).length := fun i hi => by rw [hfr.2 i (by omega)]; exact a3 i hi
  have e0 : am_cal (d + 1) 13 [.ref 200, .int (nI key), .int (nI v)] (mS I1 J) = _ := c_13 lc_200
  generalize hI2 : wI (wI I1 201 m (nI key)) 202 m (nI v) = I2
  generalize hI3 : wI I2 200 4 (nI (m + 1)) = I3
  have g1 : wI I1 201 m (nI key) 200 4 = nI m := by rw [wI_ne (by decide)]; exact c1
  have g2 : I2 200 4 = nI m := by rw [← hI2, wI_ne (by decide)]; exact g1
  have g3 : I3 200 4 = nI (m + 1) := by rw [← hI3, wI_eq]
  have hlen : (cl ++ [((key, v, has, o) : Cl)]).length = m + 1 := by rw [List.length_append, hml]; rfl
  have hops : opsOf (cl ++ [((key, v, has, o) : Cl)]) = opsOf cl ++ o := by
    rw [opsOf_app]
    show opsOf cl ++ (o ++ []) = _
    rw [List.append_nil]
  have k203 : ∀ i, I3 203 i = I1 203 i := fun i => by rw [← hI3, ← hI2, wI_ne (by decide), wI_ne (by decide), wI_ne (by decide)]
  have k204 : ∀ i, I3 204 i = I1 204 i := fun i => by rw [← hI3, ← hI2, wI_ne (by decide), wI_ne (by decide), wI_ne (by decide)]
  have k201 : ∀ i, i < m + 1 → I3 201 i = nI ((cl ++ [((key, v, has, o) : Cl)]).getD i (0, 0, 0, [])).1 ∧ I3 202 i = nI ((cl ++ [((key, v, has, o) : Cl)]).getD i (0, 0, 0, [])).2.1 := fun i hi => by
    by_cases e : i = m
    · subst e
      rw [← hml, gD_e, ← hI3, ← hI2, hml, wI_ne (by decide), wI_ne (by decide), wI_eq, wI_ne (by decide), wI_eq]
      exact ⟨rfl, rfl⟩
    · rw [gD_l (by omega), ← hI3, ← hI2, wI_ne (by decide), wI_ne (by decide), wI_nk e, wI_ne (by decide), wI_nk e, wI_ne (by decide)]
      exact e1 i (by omega)
  have k3 : ∀ i, i ≤ m + 1 → I1 203 i = nI (opsOf ((cl ++ [((key, v, has, o) : Cl)]).take i)).length := fun i hi => by
    by_cases e : i = m + 1
    · subst e
      rw [List.take_of_length_le (by omega), hops]; exact c2
    · rw [List.take_append_of_le_length (by omega)]; exact e3 i (by omega)
  by_cases h10 : m + 1 < 10
  · skip
    have i1c : (nI (m + 1)).toNatClampNeg = m + 1 := nI_clamp (by omega)
    have i1z : (nI (m + 1) < 0) = False := n_ge0 (by omega)
    have i1l : (11 ≤ m + 1) = False := n_lef (by omega)
    have i2c : (nI (m + 1 + 1)).toNatClampNeg = m + 1 + 1 := nI_clamp (by omega)
    have i2z : (nI (m + 1 + 1) < 0) = False := n_ge0 (by omega)
    have i2l : (11 ≤ m + 1 + 1) = False := n_lef (by omega)
    refine ⟨wI I3 203 (m + 1 + 1) (nI (opsOf cl ++ o).length), fun a ha => by rw [wI_F1 a (by omega), ← hI3, ← hI2, wI_F1 a (by omega), wI_F1 a (by omega), wI_F1 a (by omega)], ⟨by rw [hlen, wI_ne (by decide)]; exact g3, fun i hi => ?_, fun i hi => ?_, fun _ => ?_, fun j hj => ?_⟩, ?_⟩
    · rw [wI_ne (by decide), wI_ne (by decide)]; exact k201 i (by omega)
    · rw [wI_nk (by omega), k203]; exact k3 i (by omega)
    · rw [hlen, wI_eq, hops]
    · rw [wI_ne (by decide), k204, hops]; rw [hops] at hj; exact c3 j hj
    · have gg : I3 203 (m + 1) = nI (opsOf cl ++ o).length := by rw [k203]; exact c2
      simp only [lc_200, lr_200_0, lr_200_1, lr_200_2, lc_201, ll_201, lc_202, ll_202, lc_203, ll_203, c1, g1, i0c, i0z, i0l, hI2, g2, nI_add, hI3, g3, n_lt (show m + 1 < 2 ^ 31 by omega) (show 10 < 2 ^ 31 by decide), eq_true h10, i1c, i1z, i1l, i2c, i2z, i2l, gg, bq_s, mS_c, mS_l, mS_r, mS_i, mS_j, mS_pi, mS_pj, lt_st, bq_s, bV_s, bI_s, bJ_s, bA_s, nz_0, nc_0, nz_1, nc_1, nz_2, nc_2, nz_3, nc_3, nz_4, nc_4, nz_5, nc_5, nz_6, nc_6, nz_7, nc_7, nz_8, nc_8, nz_9, nc_9, nz_10, nc_10, nz_11, nc_11, nz_12, nc_12, if_true, if_false, eq_self, true_and, and_true, false_or, or_false, true_or, or_true, false_and, and_false, not_true, not_false_eq_true, ne_eq, ite_self, ite_not, ↓reduceIte, n_101, n_107, n_11] at e0
      exact e0
  · refine ⟨I3, fun a ha => by rw [← hI3, ← hI2, wI_F1 a (by omega), wI_F1 a (by omega), wI_F1 a (by omega)], ⟨by rw [hlen]; exact g3, fun i hi => k201 i (by omega), fun i hi => by rw [k203]; exact k3 i (by omega), fun h => by omega, fun j hj => ?_⟩, ?_⟩
    · rw [k204, hops]; rw [hops] at hj; exact c3 j hj
    · simp only [lc_200, lr_200_0, lr_200_1, lc_201, ll_201, lc_202, ll_202, c1, g1, i0c, i0z, i0l, hI2, g2, nI_add, hI3, g3, n_lt (show m + 1 < 2 ^ 31 by omega) (show 10 < 2 ^ 31 by decide), eq_false h10, bq_s, mS_c, mS_l, mS_r, mS_i, mS_j, mS_pi, mS_pj, lt_st, bq_s, bV_s, bI_s, bJ_s, bA_s, nz_0, nc_0, nz_1, nc_1, nz_2, nc_2, nz_3, nc_3, nz_4, nc_4, nz_5, nc_5, nz_6, nc_6, nz_7, nc_7, nz_8, nc_8, nz_9, nc_9, nz_10, nc_10, nz_11, nc_11, nz_12, nc_12, if_true, if_false, eq_self, true_and, and_true, false_or, or_false, true_or, or_true, false_and, and_false, not_true, not_false_eq_true, ne_eq, ite_self, ite_not, ↓reduceIte, n_101, n_107, n_11] at e0
      exact e0
theorem tx_l6 : (txW 6).length = 7 := by decide
theorem tx_lv : ∀ k, k < 7 → (txW (vtx k)).length ≤ 4 ∧ vtx k < 12 := by decide
/-- behind the COND -/
theorem e21e (hT : okT T n) (h : LwC I cl) (hm : cl.length < 10) {I1 : mI} (hX : TxC I1 T n) (hL : LxC I1 T n t) (ht : okQ T n t) (hfr : FrC I1 I cl.length) (hC : CdC I1 cl.length (opsOf cl ++ o)) {key v has : Nat} : CRs T n I J cl (am_X (am_cal (d + 3)) 21 50 [.ref 199, .int (nI key), .int (nI v)] [] (mS I1 J)) (if smc T n t then .inr (nx T n t, (key, v, has, o)) else .inl t.1) := by
  have e0 : am_X (am_cal (d + 3)) 21 50 [.ref 199, .int (nI key), .int (nI v)] [] (mS I1 J) = _ := e_21_50
  simp only [lc_199, lr_199_0, hL.2.2.2.1, tk_b hT (Or.inr (Or.inr rfl) : (59 : Nat) = 40 ∨ 59 = 41 ∨ 59 = 59), bq_s, mS_c, mS_l, mS_r, mS_i, mS_j, mS_pi, mS_pj, lt_st, bq_s, bV_s, bI_s, bJ_s, bA_s, nz_0, nc_0, nz_1, nc_1, nz_2, nc_2, nz_3, nc_3, nz_4, nc_4, nz_5, nc_5, nz_6, nc_6, nz_7, nc_7, nz_8, nc_8, nz_9, nc_9, nz_10, nc_10, nz_11, nc_11, nz_12, nc_12, if_true, if_false, eq_self, true_and, and_true, false_or, or_false, true_or, or_true, false_and, and_false, not_true, not_false_eq_true, ne_eq, ite_self, ite_not, ↓reduceIte, n_101, n_107, n_11] at e0
  by_cases hs : smc T n t
  · rw [if_pos hs] at e0
    rw [if_pos hs]
    obtain ⟨I2, a1, a2, a3⟩ := k13 (d := d + 2) (J := J) h hm hfr hC (key := key) (v := v) (has := has)
    rw [a3, bV_s] at e0
    have f2 : I2 199 = I1 199 := a1 199 (by decide)
    obtain ⟨I3, b1, b2, b3⟩ := k27 (d := d) (J := J) (I := I2) hT (fun k hk => by rw [a1 198 (by decide)]; exact hX k hk) (by rw [f2]; exact hL.1) (by rw [f2]; exact hL.2.2.1) ht.1.2.1
    rw [b3, bV_s] at e0
    exact ⟨I3, (FrL.fr b1).tr (FrL.tr (fun a ha => a1 a (by omega)) (FrL.fc hfr)), b2, a2.fr b1, e0⟩
  · rw [if_neg hs] at e0
    rw [if_neg hs]
    exact ⟨I1, FrL.fc hfr, hL.2.1, e0⟩
theorem k21 (hF : FX L xs I) (hT : okT T n) (hX : TxC I T n) (hL : LxC I T n t) (ht : okQ T n t) (h : LwC I cl) (h10' : cl.length ≤ 10) (hr : (opsOf cl).length ≤ t.1) : CRs T n I J cl (am_cal (d + 29) 21 [.ref 199] (mS I J)) (clN T n cl.length t) := by
  have hn := hT.1
  have e0 : am_cal (d + 29) 21 [.ref 199] (mS I J) = _ := c_21 lc_199
  have h30 := k30 (d := d + 27) (J := J) hF hT hX hL ht.1 (show 6 < 12 by decide)
  rw [show (4000000 + 6 : Nat) = 4000006 from rfl, plc_fnd] at h30
  simp only [lc_199, lr_199_0, hL.2.2.2.1, nm_iff hT, bq_s, mS_c, mS_l, mS_r, mS_i, mS_j, mS_pi, mS_pj, lt_st, bq_s, bV_s, bI_s, bJ_s, bA_s, nz_0, nc_0, nz_1, nc_1, nz_2, nc_2, nz_3, nc_3, nz_4, nc_4, nz_5, nc_5, nz_6, nc_6, nz_7, nc_7, nz_8, nc_8, nz_9, nc_9, nz_10, nc_10, nz_11, nc_11, nz_12, nc_12, if_true, if_false, eq_self, true_and, and_true, false_or, or_false, true_or, or_true, false_and, and_false, not_true, not_false_eq_true, ne_eq, ite_self, ite_not, ↓reduceIte, n_101, n_107, n_11] at e0
  have hno : ∀ (r : am_R), r = some (some (.int (nI 0)), mS I J) → CRs T n I J cl r (.inl t.1) := fun r hr => ⟨I, fun _ _ => rfl, hL.2.1, hr⟩
  unfold clN
  cases hk : fnd T t (txW 6) 0 with
  | none =>
    refine hno _ ?_
    by_cases hnm : t.1 < n ∧ ltr (T t.1)
    · rw [if_pos hnm, h30, bI_s, hk, if_pos (show fI none < 0 by decide)] at e0
      exact e0
    · rw [if_neg hnm, if_pos (by decide)] at e0
      exact e0
  | some key =>
    have hkl := fnd_lt _ _ _ hk
    rw [tx_l6] at hkl
    have hnm : t.1 < n ∧ ltr (T t.1) := by
      rcases fnd_nm (T := T) ht.1 (show 6 < 12 by decide) (txW 6) 0 (fun w hw => hw) with h | h
      · exact h
      · rw [hk] at h; cases h
    rw [if_pos hnm, h30, bI_s, hk, if_neg (show ¬ fI (some key) < 0 from nI_pos (show key < 2 ^ 31 by omega))] at e0
    simp only [lc_199, lr_199_0, lc_200, h.1, bq_s, mS_c, mS_l, mS_r, mS_i, mS_j, mS_pi, mS_pj, lt_st, bq_s, bV_s, bI_s, bJ_s, bA_s, nz_0, nc_0, nz_1, nc_1, nz_2, nc_2, nz_3, nc_3, nz_4, nc_4, nz_5, nc_5, nz_6, nc_6, nz_7, nc_7, nz_8, nc_8, nz_9, nc_9, nz_10, nc_10, nz_11, nc_11, nz_12, nc_12, if_true, if_false, eq_self, true_and, and_true, false_or, or_false, true_or, or_true, false_and, and_false, not_true, not_false_eq_true, ne_eq, ite_self, ite_not, ↓reduceIte, n_101, n_107, n_11] at e0
    show CRs T n I J cl _ (if cl.length < 10 then _ else _)
    by_cases h10 : cl.length < 10
    · rw [if_pos (show nI cl.length < nI 10 by rw [n_lt (by omega) (by decide)]; exact h10)] at e0
      rw [if_pos h10]
      have hC0 : CdC I cl.length (opsOf cl) := ⟨h.1, h.2.2.2.1 h10, h.2.2.2.2⟩
      have q0 := ht.1.2.2 hnm.1
      have q1 := nx_le (T := T) ht.1
      obtain ⟨I1, a1, a2, a3⟩ := k27 (d := d + 25) (J := J) hT hX hL.1 hL.2.2.1 ht.1.2.1
      rw [show d + 28 = d + 25 + 3 from rfl, a3, bV_s] at e0
      have hF1 : FX L xs I1 := hF.fc (FrC.fr (m := 0) a1)
      have hX1 : TxC I1 T n := hX.fc (FrC.fr (m := 0) a1)
      have ht1 := nx_q (T := T) ht.1
      have a2' : LxC I1 T n (nx T n t) := a2
      obtain ⟨lv4, lv12⟩ := tx_lv key (by omega)
      have h30b := k30 (d := d + 27) (J := J) hF1 hT hX1 a2' ht1.1 lv12
      rw [plc_fnd] at h30b
      have e1 : am_cal (d + 29) 21 [.ref 199] (mS I J) = am_X (am_cal (d + 28)) 21 31 [.ref 199, .int (nI key), .null] [.int (fI (fnd T (nx T n t) (txW (vtx key)) 0))] (mS I1 J) := by
        simp only [lc_199, a2'.2.2.2.1, nm_iff hT, bq_s, mS_c, mS_l, mS_r, mS_i, mS_j, mS_pi, mS_pj, lt_st, bq_s, bV_s, bI_s, bJ_s, bA_s, nz_0, nc_0, nz_1, nc_1, nz_2, nc_2, nz_3, nc_3, nz_4, nc_4, nz_5, nc_5, nz_6, nc_6, nz_7, nc_7, nz_8, nc_8, nz_9, nc_9, nz_10, nc_10, nz_11, nc_11, nz_12, nc_12, if_true, if_false, eq_self, true_and, and_true, false_or, or_false, true_or, or_true, false_and, and_false, not_true, not_false_eq_true, ne_eq, ite_self, ite_not, ↓reduceIte, n_101, n_107, n_11] at e0
        rw [e0]
        show (if (nx T n t).1 < n ∧ ltr (T (nx T n t).1) then _ else _) = _
        by_cases hn2 : (nx T n t).1 < n ∧ ltr (T (nx T n t).1)
        · rw [if_pos hn2, show fI (some key) = nI key from rfl, show d + 25 + 3 = d + 27 + 1 from rfl, k10 (by omega), bA_s, h30b, bI_s]
        · have hf : fnd T (nx T n t) (txW (vtx key)) 0 = none := by
            rcases fnd_nm (T := T) ht1.1 lv12 (txW (vtx key)) 0 (fun w hw => hw) with h | h
            · exact absurd h hn2
            · exact h
          rw [if_neg hn2, hf]
          rfl
      clear e0
      have e0 := e1
      clear e1
      rw [e_21_31] at e0
      cases hv : fnd T (nx T n t) (txW (vtx key)) 0 with
      | none =>
        rw [hv, if_pos (show fI none < 0 by decide)] at e0
        exact ⟨I1, FrL.fr a1, a2'.2.1, e0⟩
      | some v =>
        have hvl := fnd_lt _ _ _ hv
        have hn2 : (nx T n t).1 < n ∧ ltr (T (nx T n t).1) := by
          rcases fnd_nm (T := T) ht1.1 lv12 (txW (vtx key)) 0 (fun w hw => hw) with h | h
          · exact h
          · rw [hv] at h; cases h
        have q2 := ht1.1.2.2 hn2.1
        have q3 := nx_le (T := T) ht1.1
        rw [hv, if_neg (show ¬ fI (some v) < 0 from nI_pos (show v < 2 ^ 31 by omega))] at e0
        obtain ⟨I2, b1, b2, b3⟩ := k27 (d := d + 25) (J := J) hT hX1 a2'.1 a2'.2.2.1 ht1.1.2.1
        rw [show d + 28 = d + 25 + 3 from rfl, b3, bV_s] at e0
        have hF2 : FX L xs I2 := hF1.fc (FrC.fr (m := 0) b1)
        have hX2 : TxC I2 T n := hX1.fc (FrC.fr (m := 0) b1)
        have ht2 := nx_q (T := T) ht1.1
        have b2' : LxC I2 T n (nx T n (nx T n t)) := b2
        have h29 := k29 (d := d + 26) (J := J) (i := 7) hF2 hT hX2 b2' ht2.1 (by decide) (show txW 7 = [[105, 102]] from rfl)
        rw [show (4000000 + 7 : Nat) = 4000007 from rfl] at h29
        rw [show d + 25 + 3 = d + 26 + 2 from rfl, h29, bI_s] at e0
        have hfr2 : FrC I2 I cl.length := (FrC.fr b1).tr (FrC.fr a1)
        have hC2 : CdC I2 cl.length (opsOf cl) := (hC0.fr a1).fr b1
        show CRs T n I J cl _ (if wdW T (nx T n (nx T n t)) [105, 102] then _ else _)
        by_cases hif : wdW T (nx T n (nx T n t)) [105, 102]
        · rw [if_pos hif, if_neg (by decide)] at e0
          rw [if_pos hif]
          obtain ⟨I3, c1, c2, c3⟩ := k27 (d := d + 25) (J := J) hT hX2 b2'.1 b2'.2.2.1 ht2.1.2.1
          have q4 := nx_le (T := T) ht2.1
          have q5 := ht2.1.1
          rw [show d + 26 + 2 = d + 25 + 3 from rfl, c3, bV_s] at e0
          have hCX : CX L xs T n I3 cl.length (opsOf cl) (nx T n (nx T n (nx T n t))) := ⟨hF2.fc (FrC.fr (m := 0) c1), hX2.fc (FrC.fr (m := 0) c1), c2, nx_q ht2.1, hC2.fr c1, by omega⟩
          have hAny := k22k (L := L) (xs := xs) (J := J) hT 3 (by decide) I3 d cl.length (opsOf cl) _ h10 hCX
          rw [show nI (3 - 3) = nI 0 from rfl, show d + 7 * (3 + 1) = d + 25 + 3 from rfl] at hAny
          have hgr := (sub_ok (T := T) (n := n) 3).2.2 _ hCX.2.2.2.1
          cases hc : anyG T n (subK T n 3) (nx T n (nx T n (nx T n t))) with
          | inl p =>
            rw [hc] at hAny
            obtain ⟨I4, d1, d2, d3⟩ := hAny
            rw [d3, bI_s, if_pos nI_0] at e0
            exact ⟨I4, FrL.fc (d1.tr ((FrC.fr c1).tr hfr2)), d2, e0⟩
          | inr r =>
            obtain ⟨t3, o⟩ := r
            rw [hc] at hAny hgr
            obtain ⟨I4, d1, d2, d3, d4⟩ := hAny
            obtain ⟨g1, g2, g3⟩ := hgr
            rw [d4, bI_s, if_neg (by decide)] at e0
            have := e21e (d := d + 25) (J := J) (has := 1) (key := key) (v := v) hT h h10 (hCX.2.1.fc d1) d2 g1 (d1.tr ((FrC.fr c1).tr hfr2)) d3
            rw [e0]
            exact this
        · rw [if_neg hif, if_pos nI_0] at e0
          rw [if_neg hif]
          have := e21e (d := d + 25) (J := J) (has := 0) (o := []) (key := key) (v := v) hT h h10 hX2 b2' ht2 hfr2 (by rw [List.append_nil]; exact hC2)
          rw [e0]
          exact this
    · rw [if_neg (show ¬ nI cl.length < nI 10 by
        rw [n_lt (show cl.length < 2 ^ 31 by omega) (by decide)]; exact h10)] at e0
      rw [if_neg h10]
      exact hno _ e0
end J10s
