/-! ===== a CLAUSE: the model ===== -/
def bg (cl : List Cl) (i : Nat) : Nat := (eMs (opsOf (cl.take i))).length
def ClM (I : mI) (cl : List Cl) (i : Nat) : Prop := I 235 (5 * i) = nI (cl.getD i (0, 0, 0, [])).1 ∧ I 235 (5 * i + 1) = nI (cl.getD i (0, 0, 0, [])).2.1 ∧ I 235 (5 * i + 2) = nI (cl.getD i (0, 0, 0, [])).2.2.1 ∧ I 235 (5 * i + 3) = nI (bg cl i) ∧ I 235 (5 * i + 4) = nI (bg cl (i + 1))
def LwM (I : mI) (cl : List Cl) : Prop := I 229 12 = nI cl.length ∧ CdM I (eMs (opsOf cl)) ∧ ∀ i, i < cl.length → ClM I cl i
abbrev FrY (I' I : mI) : Prop := (∀ a, a ≠ 229 → a ≠ 234 → a ≠ 235 → I' a = I a) ∧ ∀ j, (j < 8 ∨ 13 < j) → I' 229 j = I 229 j
def MRs (T : Nat → Nat) (n : Nat) (I : mI) (J : mJ) (cl : List Cl) (r : am_R) : Sum Nat (Tok × Cl) → Prop
  | .inl p => ∃ I', FrY I' I ∧ p ≤ n ∧ I' 229 8 = nI p ∧ I' 229 13 = nI 1 ∧ r = some (none, mS I' J)
  | .inr (t', c) => ∃ I', FrY I' I ∧ LxM I' t' ∧ LwM I' (cl ++ [c]) ∧ I' 229 13 = nI 0 ∧ I' 229 10 = nI 0 ∧ r = some (none, mS I' J)
section J11s
variable {I I' : mI} {J : mJ} {d k n q p i c m a e b L j : Nat} {x y z u v : Int32} {T : Nat → Nat} {t t' : Tok} {w cs : List Nat} {xs : Nat → Int32} {o o' : List PO} {cl : List Cl} {code : List Int32}
theorem FrY.tr {I1 : mI} (h : FrY I' I1) (h2 : FrY I1 I) : FrY I' I := ⟨fun a b c e => (h.1 a b c e).trans (h2.1 a b c e), fun j c => (h.2 j c).trans (h2.2 j c)⟩
theorem FrY.rf : FrY I I := ⟨fun _ _ _ _ => rfl, fun _ _ => rfl⟩
theorem FrY.fm (h : FrM I' I) : FrY I' I := ⟨fun a b c _ => h.1 a b c, fun j c => h.2 j (by omega) (by omega) (by omega) (by omega)⟩
theorem FrY.fn (h : FN I' I) : FrY I' I := FrY.fm (FrM.fn h)
theorem FrY.w13 : FrY (wI I 229 13 v) I := ⟨fun a b _ _ => wI_F1 a b, fun j c => wI_nk (by omega)⟩
theorem TxM.fy (h : TxM I T n) (hf : FrY I' I) : TxM I' T n := ⟨by rw [hf.2 7 (by decide)]; exact h.1, fun k hk => by rw [hf.1 233 (by decide) (by decide) (by decide)]; exact h.2 k hk⟩
theorem e66w {z : Int32} (hw : I 229 13 = nI 1) : am_X (am_cal (d + 1)) 193 66 [.ref 229, .int x, .int y, .int u, .int v, .null] [.int z, .ref 229] (mS I J) = some (none, mS I J) := by
  rw [e_193_66, m182w hw, bV_s]
  simp only [lc_229, hw, z_f, lc_229, lr_229_0, lc_230, ll_230, bq_s, mS_c, mS_l, mS_r, mS_i, mS_j, mS_pi, mS_pj, lt_st, bq_s, bV_s, bI_s, bJ_s, bA_s, nz_0, nc_0, nz_1, nc_1, nz_2, nc_2, nz_3, nc_3, nz_4, nc_4, nz_5, nc_5, nz_6, nc_6, nz_7, nc_7, nz_8, nc_8, nz_9, nc_9, nz_10, nc_10, nz_11, nc_11, nz_12, nc_12, if_true, if_false, eq_self, true_and, and_true, false_or, or_false, true_or, or_true, false_and, and_false, not_true, not_false_eq_true, ne_eq, ite_self, ite_not, ↓reduceIte]
theorem e56w (hT : okT T n) (hX : TxM I T n) (hp : p ≤ n) (h8 : I 229 8 = nI p) (hw : I 229 13 = nI 1) : am_X (am_cal (d + 1)) 193 56 [.ref 229, .int x, .int y, .int u, .int v, .null] [] (mS I J) = some (none, mS I J) := by
  have hn := hT.1
  rw [e_193_56]
  simp only [lc_229, h8, m178 hT hX (show p < 2 ^ 31 by omega), e66w hw, ite_self, lc_229, lr_229_0, lc_230, ll_230, bq_s, mS_c, mS_l, mS_r, mS_i, mS_j, mS_pi, mS_pj, lt_st, bq_s, bV_s, bI_s, bJ_s, bA_s, nz_0, nc_0, nz_1, nc_1, nz_2, nc_2, nz_3, nc_3, nz_4, nc_4, nz_5, nc_5, nz_6, nc_6, nz_7, nc_7, nz_8, nc_8, nz_9, nc_9, nz_10, nc_10, nz_11, nc_11, nz_12, nc_12, if_true, if_false, eq_self, true_and, and_true, false_or, or_false, true_or, or_true, false_and, and_false, not_true, not_false_eq_true, ne_eq, ite_self, ite_not, ↓reduceIte]
theorem e48w (hT : okT T n) (hX : TxM I T n) (hp : p ≤ n) (h8 : I 229 8 = nI p) (hw : I 229 13 = nI 1) : am_X (am_cal (d + 1)) 193 48 [.ref 229, .int x, .int y, .int u, .null, .null] [.int (nI 0)] (mS I J) = some (none, mS I J) := by
  rw [e_193_48, if_pos nI_0, e56w hT hX hp h8 hw]
theorem e32w {z : Int32} (hT : okT T n) (hX : TxM I T n) (hp : p ≤ n) (h8 : I 229 8 = nI p) (hw : I 229 13 = nI 1) : am_X (am_cal (d + 1)) 193 32 [.ref 229, .int x, .int y, .int u, .null, .null] [.int z, .ref 229] (mS I J) = some (none, mS I J) := by
  rw [e_193_32, m182w hw, bV_s]
  simp only [lc_229, hw, z_f, e48w hT hX hp h8 hw, lc_229, lr_229_0, lc_230, ll_230, bq_s, mS_c, mS_l, mS_r, mS_i, mS_j, mS_pi, mS_pj, lt_st, bq_s, bV_s, bI_s, bJ_s, bA_s, nz_0, nc_0, nz_1, nc_1, nz_2, nc_2, nz_3, nc_3, nz_4, nc_4, nz_5, nc_5, nz_6, nc_6, nz_7, nc_7, nz_8, nc_8, nz_9, nc_9, nz_10, nc_10, nz_11, nc_11, nz_12, nc_12, if_true, if_false, eq_self, true_and, and_true, false_or, or_false, true_or, or_true, false_and, and_false, not_true, not_false_eq_true, ne_eq, ite_self, ite_not, ↓reduceIte]
theorem e25w {z : Int32} (hT : okT T n) (hX : TxM I T n) (hp : p ≤ n) (h8 : I 229 8 = nI p) (hw : I 229 13 = nI 1) : am_X (am_cal (d + 1)) 193 25 [.ref 229, .int x, .int y, .null, .null, .null] [.int z] (mS I J) = some (none, mS I J) := by
  rw [e_193_25, e32w hT hX hp h8 hw, e32w hT hX hp h8 hw, ite_self]
/-- the CLAUSE is written -/
theorem e193e (hT : okT T n) (hm : cl.length < 10) (hlen0 : ∀ i, i < cl.length → ClM I cl i) (h12 : I 229 12 = nI cl.length) {I1 : mI} (hfr : FrM I1 I) (h : MX T n 0 I1 (eMs (opsOf cl ++ o)) t) {key v has : Nat} (hh : has ≤ 1) : MRs T n I J cl (am_X (am_cal (d + 4)) 193 56 [.ref 229, .int (nI key), .int (nI (eMs (opsOf cl)).length), .int (nI v), .int (nI has), .null] [] (mS I1 J)) (if smc T n t then .inr (nx T n t, (key, v, has, o)) else .inl t.1) := by
  have hn := hT.1
  obtain ⟨hX, hL, ht, hC, hw, hr, h10⟩ := id h
  have u1 := ht.1.1
  have u2 := ht.1.2.1
  have e0 : am_X (am_cal (d + 4)) 193 56 [.ref 229, .int (nI key), .int (nI (eMs (opsOf cl)).length), .int (nI v), .int (nI has), .null] [] (mS I1 J) = _ := e_193_56
  simp only [lc_229, hL.1, show d + 4 = d + 3 + 1 from rfl, m178 hT hX (show t.1 < 2 ^ 31 by omega), bA_c hT (show 59 < 256 by decide), lc_229, lr_229_0, lc_230, ll_230, bq_s, mS_c, mS_l, mS_r, mS_i, mS_j, mS_pi, mS_pj, lt_st, bq_s, bV_s, bI_s, bJ_s, bA_s, nz_0, nc_0, nz_1, nc_1, nz_2, nc_2, nz_3, nc_3, nz_4, nc_4, nz_5, nc_5, nz_6, nc_6, nz_7, nc_7, nz_8, nc_8, nz_9, nc_9, nz_10, nc_10, nz_11, nc_11, nz_12, nc_12, if_true, if_false, eq_self, true_and, and_true, false_or, or_false, true_or, or_true, false_and, and_false, not_true, not_false_eq_true, ne_eq, ite_self, ite_not, ↓reduceIte] at e0
  by_cases hs : smc T n t
  · rw [if_pos hs, e_193_66] at e0
    rw [if_pos hs]
    obtain ⟨I2, a1, a2, a3⟩ := h.nx (d := d) (J := J) hT
    obtain ⟨hX2, hL2, ht2, hC2, hw2, hr2, h102⟩ := id a2
    have fy2 : FrY I2 I := (FrY.fn a1).tr (FrY.fm hfr)
    have g12 : I2 229 12 = nI cl.length := by rw [a1.2 12 (by decide) (by decide), hfr.2 12 (by decide) (by decide) (by decide) (by decide)]; exact h12
    have g235 : I2 235 = I 235 := by rw [a1.1 235 (by decide), hfr.1 235 (by decide) (by decide)]
    rw [show d + 3 + 1 = d + 4 from rfl, a3, bV_s] at e0
    generalize hml : cl.length = m at *
    have i0c : (nI (5 * m)).toNatClampNeg = 5 * m := nI_clamp (by omega)
    have i0z : (nI (5 * m) < 0) = False := n_ge0 (by omega)
    have i0l : (50 ≤ 5 * m) = False := n_lef (by omega)
    have i1c : (nI (5 * m + 1)).toNatClampNeg = 5 * m + 1 := nI_clamp (by omega)
    have i1z : (nI (5 * m + 1) < 0) = False := n_ge0 (by omega)
    have i1l : (50 ≤ 5 * m + 1) = False := n_lef (by omega)
    have i2c : (nI (5 * m + 2)).toNatClampNeg = 5 * m + 2 := nI_clamp (by omega)
    have i2z : (nI (5 * m + 2) < 0) = False := n_ge0 (by omega)
    have i2l : (50 ≤ 5 * m + 2) = False := n_lef (by omega)
    have i3c : (nI (5 * m + 3)).toNatClampNeg = 5 * m + 3 := nI_clamp (by omega)
    have i3z : (nI (5 * m + 3) < 0) = False := n_ge0 (by omega)
    have i3l : (50 ≤ 5 * m + 3) = False := n_lef (by omega)
    have i4c : (nI (5 * m + 4)).toNatClampNeg = 5 * m + 4 := nI_clamp (by omega)
    have i4z : (nI (5 * m + 4) < 0) = False := n_ge0 (by omega)
    have i4l : (50 ≤ 5 * m + 4) = False := n_lef (by omega)
    have p5 : nI 5 * nI m = nI (5 * m) := pk_mul _ _
    have g3 : ∀ v : Int32, wI I2 235 (5 * m) v 229 12 = nI m := fun v => by rw [wI_ne (by decide)]; exact g12
    -- both roads of the flag
    have e1 : am_X (am_cal (d + 4)) 193 56 [.ref 229, .int (nI key), .int (nI (eMs (opsOf cl)).length), .int (nI v), .int (nI has), .null] [] (mS I1 J) = am_X (am_cal (d + 4)) 193 97 [.ref 229, .null, .int (nI (eMs (opsOf cl)).length), .null, .null, .int (nI (5 * m))] [.int (nI has), .int (nI (5 * m + 2)), .ref 235] (mS (wI (wI I2 235 (5 * m) (nI key)) 235 (5 * m + 1) (nI v)) J) := by
      rw [e0]
      simp only [lc_229, hw2, z_t, lr_229_6, lc_235, ll_235, g12, p5, nI_add, i0c, i0z, i0l, i1c, i1z, i1l, g3, lc_229, lr_229_0, lc_230, ll_230, bq_s, mS_c, mS_l, mS_r, mS_i, mS_j, mS_pi, mS_pj, lt_st, bq_s, bV_s, bI_s, bJ_s, bA_s, nz_0, nc_0, nz_1, nc_1, nz_2, nc_2, nz_3, nc_3, nz_4, nc_4, nz_5, nc_5, nz_6, nc_6, nz_7, nc_7, nz_8, nc_8, nz_9, nc_9, nz_10, nc_10, nz_11, nc_11, nz_12, nc_12, if_true, if_false, eq_self, true_and, and_true, false_or, or_false, true_or, or_true, false_and, and_false, not_true, not_false_eq_true, ne_eq, ite_self, ite_not, ↓reduceIte]
      rcases (show has = 0 ∨ has = 1 by omega) with rfl | rfl
      · rw [if_pos nI_0]
      · rw [if_neg (by decide)]
    rw [e_193_97] at e1
    generalize hI3 : wI (wI I2 235 (5 * m) (nI key)) 235 (5 * m + 1) (nI v) = I3 at e1
    have h3o : ∀ a, a ≠ 235 → I3 a = I2 a := fun a ha => by rw [← hI3, wI_F1 a ha, wI_F1 a ha]
    simp only [lc_229, lr_229_6, lc_235, ll_235, i2c, i2z, i2l, i3c, i3z, i3l, i4c, i4z, i4l, nI_add, lc_229, lr_229_0, lc_230, ll_230, bq_s, mS_c, mS_l, mS_r, mS_i, mS_j, mS_pi, mS_pj, lt_st, bq_s, bV_s, bI_s, bJ_s, bA_s, nz_0, nc_0, nz_1, nc_1, nz_2, nc_2, nz_3, nc_3, nz_4, nc_4, nz_5, nc_5, nz_6, nc_6, nz_7, nc_7, nz_8, nc_8, nz_9, nc_9, nz_10, nc_10, nz_11, nc_11, nz_12, nc_12, if_true, if_false, eq_self, true_and, and_true, false_or, or_false, true_or, or_true, false_and, and_false, not_true, not_false_eq_true, ne_eq, ite_self, ite_not, ↓reduceIte] at e1
    have k11 : ∀ (a b : Nat) (x y : Int32), wI (wI I3 235 a x) 235 b y 229 11 = nI (eMs (opsOf cl ++ o)).length := fun a b x y => by rw [wI_ne (by decide), wI_ne (by decide), h3o 229 (by decide)]; exact hC2.1
    have k12 : ∀ (a b c : Nat) (x y z : Int32), wI (wI (wI I3 235 a x) 235 b y) 235 c z 229 12 = nI m := fun a b c x y z => by rw [wI_ne (by decide), wI_ne (by decide), wI_ne (by decide), h3o 229 (by decide)]; exact g12
    simp only [k11, k12, nI_add] at e1
    have hlen : (cl ++ [((key, v, has, o) : Cl)]).length = m + 1 := by rw [List.length_append, hml]; rfl
    have hops : opsOf (cl ++ [((key, v, has, o) : Cl)]) = opsOf cl ++ o := by
      rw [opsOf_app]
      show opsOf cl ++ (o ++ []) = _
      rw [List.append_nil]
    have hbg : ∀ i, i ≤ m → bg (cl ++ [((key, v, has, o) : Cl)]) i = bg cl i := fun i hi => by unfold bg; rw [List.take_append_of_le_length (by omega)]
    refine ⟨_, ⟨fun a b c e => ?_, fun j hj => ?_⟩, ⟨?_, ?_⟩, ⟨?_, ⟨?_, fun j hj => ?_⟩, fun i hi => ?_⟩, ?_, ?_, e1⟩
    · rw [wI_F1 a b, wI_F1 a e, wI_F1 a e, wI_F1 a e, h3o a e]; exact fy2.1 a b c e
    · rw [wI_nk (by omega), wI_ne (by decide), wI_ne (by decide), wI_ne (by decide), h3o 229 (by decide)]; exact fy2.2 j hj
    · rw [wI_nk (by decide), wI_ne (by decide), wI_ne (by decide), wI_ne (by decide), h3o 229 (by decide)]; exact hL2.1
    · rw [wI_nk (by decide), wI_ne (by decide), wI_ne (by decide), wI_ne (by decide), h3o 229 (by decide)]; exact hL2.2
    · rw [wI_eq, hlen]
    · rw [wI_nk (by decide), wI_ne (by decide), wI_ne (by decide), wI_ne (by decide), h3o 229 (by decide), hops]; exact hC2.1
    · rw [wI_ne (by decide), wI_ne (by decide), wI_ne (by decide), wI_ne (by decide), h3o 234 (by decide), hops]; rw [hops] at hj; exact hC2.2 j hj
    · rw [hlen] at hi
      unfold ClM
      have w229 : ∀ (F : mI) (x : Int32) (j : Nat), wI F 229 12 x 235 j = F 235 j := fun F x j => wI_ne (by decide)
      by_cases hi2 : i = m
      · subst hi2
        rw [← hml, gD_e, hml, hbg _ (Nat.le_refl _)]
        have hbgm : bg cl i = (eMs (opsOf cl)).length := by unfold bg; rw [List.take_of_length_le (by omega)]
        have hbgm1 : bg (cl ++ [((key, v, has, o) : Cl)]) (i + 1) = (eMs (opsOf cl ++ o)).length := by unfold bg; rw [List.take_of_length_le (by omega), hops]
        rw [hbgm, hbgm1]
        refine ⟨?_, ?_, ?_, ?_, ?_⟩
        · rw [w229, wI_nk (by omega), wI_nk (by omega), wI_nk (by omega), ← hI3, wI_nk (by omega), wI_eq]
        · rw [w229, wI_nk (by omega), wI_nk (by omega), wI_nk (by omega), ← hI3, wI_eq]
        · rw [w229, wI_nk (by omega), wI_nk (by omega), wI_eq]
        · rw [w229, wI_nk (by omega), wI_eq]
        · rw [w229, wI_eq]
      · obtain ⟨b1, b2, b3, b4, b5⟩ := hlen0 i (by omega)
        rw [gD_l (by omega), hbg i (by omega), hbg (i + 1) (by omega)]
        have same : ∀ f, f < 5 → ∀ (x y z u : Int32), wI (wI (wI (wI I3 235 (5 * m + 2) x) 235 (5 * m + 3) y) 235 (5 * m + 4) z) 229 12 u 235 (5 * i + f) = I 235 (5 * i + f) := fun f hf x y z u => by
          rw [w229, wI_nk (by omega), wI_nk (by omega), wI_nk (by omega), ← hI3, wI_nk (by omega), wI_nk (by omega), g235]
        exact ⟨(same 0 (by decide) _ _ _ _).trans b1, (same 1 (by decide) _ _ _ _).trans b2, (same 2 (by decide) _ _ _ _).trans b3, (same 3 (by decide) _ _ _ _).trans b4, (same 4 (by decide) _ _ _ _).trans b5⟩
    · rw [wI_nk (by decide), wI_ne (by decide), wI_ne (by decide), wI_ne (by decide), h3o 229 (by decide)]; exact hw2
    · rw [wI_nk (by decide), wI_ne (by decide), wI_ne (by decide), wI_ne (by decide), h3o 229 (by decide)]; exact h102
  · rw [if_neg hs, e_193_66, m182f hw, bV_s] at e0
    rw [if_neg hs]
    have g13 : wI I1 229 13 (nI 1) 229 13 = nI 1 := wI_eq
    simp only [lc_229, g13, z_f, lc_229, lr_229_0, lc_230, ll_230, bq_s, mS_c, mS_l, mS_r, mS_i, mS_j, mS_pi, mS_pj, lt_st, bq_s, bV_s, bI_s, bJ_s, bA_s, nz_0, nc_0, nz_1, nc_1, nz_2, nc_2, nz_3, nc_3, nz_4, nc_4, nz_5, nc_5, nz_6, nc_6, nz_7, nc_7, nz_8, nc_8, nz_9, nc_9, nz_10, nc_10, nz_11, nc_11, nz_12, nc_12, if_true, if_false, eq_self, true_and, and_true, false_or, or_false, true_or, or_true, false_and, and_false, not_true, not_false_eq_true, ne_eq, ite_self, ite_not, ↓reduceIte] at e0
    exact ⟨_, FrY.w13.tr (FrY.fm hfr), by omega, by rw [wI_nk (by decide)]; exact hL.1, g13, e0⟩
theorem m193 (hT : okT T n) (hX : TxM I T n) (hL : LxM I t) (ht : okQ T n t) (h : LwM I cl) (hw : I 229 13 = nI 0) (h10 : I 229 10 = nI 0) (h10' : cl.length ≤ 10) (hr : (eMs (opsOf cl)).length ≤ t.1) : MRs T n I J cl (am_cal (d + 33) 193 [.ref 229] (mS I J)) (clN T n cl.length t) := by
  have hn := hT.1
  have u1 := ht.1.1
  have u2 := ht.1.2.1
  obtain ⟨l1, l2, l3⟩ := id h
  have e0 : am_cal (d + 33) 193 [.ref 229] (mS I J) = _ := c_193 lc_229
  rw [show d + 32 = d + 28 + 4 from rfl, m186 hT hX hL ht.1, bI_s] at e0
  rw [show ([[111, 119, 101, 115], [111, 119, 110, 115], [98, 108, 97, 109, 101], [118, 111, 116, 101], [119, 101, 100], [108, 101, 97, 118, 101], [115, 108, 101, 101, 112]] : List (List Nat)) = txW 6 from rfl, plc_fnd] at e0
  have bad : ∀ (I1 : mI) (t1 : Tok) (x y z : Int32) (r : am_R), FrM I1 I → TxM I1 T n → LxM I1 t1 → okQ T n t1 → I1 229 13 = nI 0 → r = am_X (am_cal (d + 32)) 193 25 [.ref 229, .int x, .int y, .null, .null, .null] [.int z] (mS (wI I1 229 13 (nI 1)) J) → MRs T n I J cl r (.inl t1.1) := fun I1 t1 x y z r f1 hX1 hL1 ht1 hw1 hr => by
    have g13 : wI I1 229 13 (nI 1) 229 13 = nI 1 := wI_eq
    have g8 : wI I1 229 13 (nI 1) 229 8 = nI t1.1 := by rw [wI_nk (by decide)]; exact hL1.1
    have hp : t1.1 ≤ n := by have := ht1.1.1; have := ht1.1.2.1; omega
    exact ⟨_, FrY.w13.tr (FrY.fm f1), hp, g8, g13, by rw [hr, show d + 32 = d + 31 + 1 from rfl, e25w hT (hX1.fy FrY.w13) hp g8 g13]⟩
  have b11 : I 229 11 = nI (eMs (opsOf cl)).length := l2.1
  unfold clN
  cases hk : fnd T t (txW 6) 0 with
  | none =>
    rw [hk] at e0
    simp only [lc_229, lc_229, lr_229_0, lc_230, ll_230, bq_s, mS_c, mS_l, mS_r, mS_i, mS_j, mS_pi, mS_pj, lt_st, bq_s, bV_s, bI_s, bJ_s, bA_s, nz_0, nc_0, nz_1, nc_1, nz_2, nc_2, nz_3, nc_3, nz_4, nc_4, nz_5, nc_5, nz_6, nc_6, nz_7, nc_7, nz_8, nc_8, nz_9, nc_9, nz_10, nc_10, nz_11, nc_11, nz_12, nc_12, if_true, if_false, eq_self, true_and, and_true, false_or, or_false, true_or, or_true, false_and, and_false, not_true, not_false_eq_true, ne_eq, ite_self, ite_not, ↓reduceIte] at e0
    rw [if_pos (show fI none < 0 by decide), show d + 28 + 4 = d + 31 + 1 from rfl, m182f hw, bV_s] at e0
    simp only [lc_229, wI_eq, z_f, lc_229, lr_229_0, lc_230, ll_230, bq_s, mS_c, mS_l, mS_r, mS_i, mS_j, mS_pi, mS_pj, lt_st, bq_s, bV_s, bI_s, bJ_s, bA_s, nz_0, nc_0, nz_1, nc_1, nz_2, nc_2, nz_3, nc_3, nz_4, nc_4, nz_5, nc_5, nz_6, nc_6, nz_7, nc_7, nz_8, nc_8, nz_9, nc_9, nz_10, nc_10, nz_11, nc_11, nz_12, nc_12, if_true, if_false, eq_self, true_and, and_true, false_or, or_false, true_or, or_true, false_and, and_false, not_true, not_false_eq_true, ne_eq, ite_self, ite_not, ↓reduceIte] at e0
    exact bad I t _ _ _ _ FrM.rf hX hL ht hw e0
  | some key =>
    have hkl := fnd_lt _ _ _ hk
    rw [tx_l6] at hkl
    have hnm : t.1 < n ∧ ltr (T t.1) := by
      rcases fnd_nm (T := T) ht.1 (show 6 < 12 by decide) (txW 6) 0 (fun w hw => hw) with h | h
      · exact h
      · rw [hk] at h; cases h
    rw [hk] at e0
    simp only [lc_229, l1, lc_229, lr_229_0, lc_230, ll_230, bq_s, mS_c, mS_l, mS_r, mS_i, mS_j, mS_pi, mS_pj, lt_st, bq_s, bV_s, bI_s, bJ_s, bA_s, nz_0, nc_0, nz_1, nc_1, nz_2, nc_2, nz_3, nc_3, nz_4, nc_4, nz_5, nc_5, nz_6, nc_6, nz_7, nc_7, nz_8, nc_8, nz_9, nc_9, nz_10, nc_10, nz_11, nc_11, nz_12, nc_12, if_true, if_false, eq_self, true_and, and_true, false_or, or_false, true_or, or_true, false_and, and_false, not_true, not_false_eq_true, ne_eq, ite_self, ite_not, ↓reduceIte] at e0
    rw [if_neg (show ¬ fI (some key) < 0 from nI_pos (show key < 2 ^ 31 by omega))] at e0
    show MRs T n I J cl _ (if cl.length < 10 then _ else _)
    by_cases h10c : cl.length < 10
    · rw [if_pos (show nI cl.length < nI 10 by rw [n_lt (by omega) (by decide)]; exact h10c)] at e0
      rw [if_pos h10c]
      have q0 := ht.1.2.2 hnm.1
      have q1 := nx_le (T := T) ht.1
      obtain ⟨I1, a1, a2, a3⟩ := m182t (d := d + 28) (J := J) hT hX hL ht.1 hw
      rw [a3, bV_s] at e0
      have hX1 : TxM I1 T n := hX.fn a1
      have ht1 := nx_q (T := T) ht.1
      have g13 : I1 229 13 = nI 0 := by rw [a1.2 13 (by decide) (by decide)]; exact hw
      simp only [lc_229, g13, z_t, lc_229, lr_229_0, lc_230, ll_230, bq_s, mS_c, mS_l, mS_r, mS_i, mS_j, mS_pi, mS_pj, lt_st, bq_s, bV_s, bI_s, bJ_s, bA_s, nz_0, nc_0, nz_1, nc_1, nz_2, nc_2, nz_3, nc_3, nz_4, nc_4, nz_5, nc_5, nz_6, nc_6, nz_7, nc_7, nz_8, nc_8, nz_9, nc_9, nz_10, nc_10, nz_11, nc_11, nz_12, nc_12, if_true, if_false, eq_self, true_and, and_true, false_or, or_false, true_or, or_true, false_and, and_false, not_true, not_false_eq_true, ne_eq, ite_self, ite_not, ↓reduceIte] at e0
      rw [show fI (some key) = nI key from rfl, m187 hT hX1 a2 ht1.1 (by omega), bI_s, plc_fnd] at e0
      obtain ⟨lv4, lv12⟩ := tx_lv key (by omega)
      cases hv : fnd T (nx T n t) (txW (vtx key)) 0 with
      | none =>
        rw [hv, e_193_25, if_pos (show fI none < 0 by decide), e_193_32, show d + 28 + 4 = d + 31 + 1 from rfl, m182f g13, bV_s] at e0
        have k13 : wI I1 229 13 (nI 1) 229 13 = nI 1 := wI_eq
        have k8 : wI I1 229 13 (nI 1) 229 8 = nI (nx T n t).1 := by rw [wI_nk (by decide)]; exact a2.1
        have hp : (nx T n t).1 ≤ n := by have := ht1.1.1; have := ht1.1.2.1; omega
        simp only [lc_229, k13, z_f, e48w hT (hX1.fy FrY.w13) hp k8 k13, lc_229, lr_229_0, lc_230, ll_230, bq_s, mS_c, mS_l, mS_r, mS_i, mS_j, mS_pi, mS_pj, lt_st, bq_s, bV_s, bI_s, bJ_s, bA_s, nz_0, nc_0, nz_1, nc_1, nz_2, nc_2, nz_3, nc_3, nz_4, nc_4, nz_5, nc_5, nz_6, nc_6, nz_7, nc_7, nz_8, nc_8, nz_9, nc_9, nz_10, nc_10, nz_11, nc_11, nz_12, nc_12, if_true, if_false, eq_self, true_and, and_true, false_or, or_false, true_or, or_true, false_and, and_false, not_true, not_false_eq_true, ne_eq, ite_self, ite_not, ↓reduceIte] at e0
        exact ⟨_, FrY.w13.tr (FrY.fn a1), hp, k8, k13, e0⟩
      | some v =>
        have hvl := fnd_lt _ _ _ hv
        have hn2 : (nx T n t).1 < n ∧ ltr (T (nx T n t).1) := by
          rcases fnd_nm (T := T) ht1.1 lv12 (txW (vtx key)) 0 (fun w hw => hw) with h | h
          · exact h
          · rw [hv] at h; cases h
        have q2 := ht1.1.2.2 hn2.1
        have q3 := nx_le (T := T) ht1.1
        rw [hv, e_193_25, if_neg (show ¬ fI (some v) < 0 from nI_pos (show v < 2 ^ 31 by omega)), e_193_32] at e0
        obtain ⟨I2, b1, b2, b3⟩ := m182t (d := d + 28) (J := J) hT hX1 a2 ht1.1 g13
        rw [b3, bV_s] at e0
        have hX2 : TxM I2 T n := hX1.fn b1
        have ht2 := nx_q (T := T) ht1.1
        have k13 : I2 229 13 = nI 0 := by rw [b1.2 13 (by decide) (by decide)]; exact g13
        have k10 : I2 229 10 = nI 0 := by rw [b1.2 10 (by decide) (by decide), a1.2 10 (by decide) (by decide)]; exact h10
        have fr2 : FrM I2 I := (FrM.fn b1).tr (FrM.fn a1)
        have hC2 : CdM I2 (eMs (opsOf cl)) := (l2.fn a1).fn b1
        have h185 := m185_2 (d := d + 29) (J := J) hT hX2 b2 ht2.1 (show ltr 105 by decide) (show ltr 102 by decide)
        simp only [lc_229, k13, z_t, show d + 28 + 4 = d + 29 + 3 from rfl, h185, b11, lc_229, lr_229_0, lc_230, ll_230, bq_s, mS_c, mS_l, mS_r, mS_i, mS_j, mS_pi, mS_pj, lt_st, bq_s, bV_s, bI_s, bJ_s, bA_s, nz_0, nc_0, nz_1, nc_1, nz_2, nc_2, nz_3, nc_3, nz_4, nc_4, nz_5, nc_5, nz_6, nc_6, nz_7, nc_7, nz_8, nc_8, nz_9, nc_9, nz_10, nc_10, nz_11, nc_11, nz_12, nc_12, if_true, if_false, eq_self, true_and, and_true, false_or, or_false, true_or, or_true, false_and, and_false, not_true, not_false_eq_true, ne_eq, ite_self, ite_not, ↓reduceIte] at e0
        have q6 := ht2.1.1
        have hMX2 : MX T n 0 I2 (eMs (opsOf cl)) (nx T n (nx T n t)) := ⟨hX2, b2, ht2, hC2, k13, by omega, k10⟩
        show MRs T n I J cl _ (if wdW T (nx T n (nx T n t)) [105, 102] then _ else _)
        by_cases hif : wdW T (nx T n (nx T n t)) [105, 102]
        · rw [if_pos hif, if_neg (by decide), e_193_48, if_neg (by decide)] at e0
          rw [if_pos hif]
          obtain ⟨I3, c1, c2, c3⟩ := hMX2.nx (d := d + 28) (J := J) hT
          rw [show d + 29 + 3 = d + 28 + 4 from rfl, c3, bV_s] at e0
          have hAny := m192k (J := J) hT 3 (by decide) I3 d (eMs (opsOf cl)) _ c2
          rw [show d + 8 * (3 + 1) = d + 28 + 4 from rfl] at hAny
          have hgr := (sub_ok (T := T) (n := n) 3).2.2 _ c2.2.2.1
          cases hc : anyG T n (subK T n 3) (nx T n (nx T n (nx T n t))) with
          | inl p =>
            rw [hc] at hAny
            obtain ⟨I4, d1, d2, d3, d4, d5⟩ := hAny
            rw [d5, bV_s, show d + 28 + 4 = d + 31 + 1 from rfl, e56w hT (c2.1.fm d1) d2 d3 d4] at e0
            exact ⟨I4, FrY.fm (d1.tr ((FrM.fn c1).tr fr2)), d2, d3, d4, e0⟩
          | inr r =>
            obtain ⟨t3, o⟩ := r
            rw [hc] at hAny hgr
            obtain ⟨I4, d1, d2, d3, d4, d5⟩ := hAny
            obtain ⟨g1, g2, g3⟩ := hgr
            have j10 : I4 229 10 = nI 0 := by rw [d1.2 10 (by decide) (by decide) (by decide) (by decide)]; exact c2.2.2.2.2.2.2
            rw [d5, bV_s] at e0
            rw [← eMs_app] at d3
            have hMX4 : MX T n 0 I4 (eMs (opsOf cl ++ o)) t3 := ⟨c2.1.fm d1, d2, g1, d3, d4, by have := c2.2.2.2.2.2.1; rw [eMs_app, List.length_append]; omega, j10⟩
            have := e193e (d := d + 28) (J := J) (has := 1) (key := key) (v := v) hT h10c l3 l1 (d1.tr ((FrM.fn c1).tr fr2)) hMX4 (by decide)
            rw [e0]
            exact this
        · rw [if_neg hif, if_pos nI_0, e_193_48, if_pos nI_0] at e0
          rw [if_neg hif]
          have := e193e (d := d + 28) (J := J) (has := 0) (o := []) (key := key) (v := v) hT h10c l3 l1 fr2 (by rw [List.append_nil]; exact hMX2) (by decide)
          rw [e0]
          exact this
    · rw [if_neg (show ¬ nI cl.length < nI 10 by rw [n_lt (show cl.length < 2 ^ 31 by omega) (by decide)]; exact h10c), show d + 28 + 4 = d + 31 + 1 from rfl, m182f hw, bV_s] at e0
      rw [if_neg h10c]
      simp only [lc_229, wI_eq, z_f, lc_229, lr_229_0, lc_230, ll_230, bq_s, mS_c, mS_l, mS_r, mS_i, mS_j, mS_pi, mS_pj, lt_st, bq_s, bV_s, bI_s, bJ_s, bA_s, nz_0, nc_0, nz_1, nc_1, nz_2, nc_2, nz_3, nc_3, nz_4, nc_4, nz_5, nc_5, nz_6, nc_6, nz_7, nc_7, nz_8, nc_8, nz_9, nc_9, nz_10, nc_10, nz_11, nc_11, nz_12, nc_12, if_true, if_false, eq_self, true_and, and_true, false_or, or_false, true_or, or_true, false_and, and_false, not_true, not_false_eq_true, ne_eq, ite_self, ite_not, ↓reduceIte] at e0
      exact bad I t _ _ _ _ FrM.rf hX hL ht hw e0
end J11s
