/-! ===== the model's sheet, put, item; debts ===== -/
def dbU (x : Int32) (Tq : Nat → Int32) (Z i : Nat) : Nat → Nat → Nat → Rw → Rw × Int32
  | 0, _, c, s => (s, nI c)
  | n + 1, k, c, s => if i + k < Z then dbU x Tq Z i n (k + 1) (if v_claim s (nI 0) x (Tq (i + k)) < 0 then c else c + 1) (tr_claim s (nI 0) x (Tq (i + k))) else (s, Int32.ofInt (-12))
theorem dbU_s {x : Int32} {Tq : Nat → Int32} {Z i n k c : Nat} {s : Rw} : dbU x Tq Z i (n + 1) k c s = if i + k < Z then dbU x Tq Z i n (k + 1) (if v_claim s (nI 0) x (Tq (i + k)) < 0 then c else c + 1) (tr_claim s (nI 0) x (Tq (i + k))) else (s, Int32.ofInt (-12)) := rfl
abbrev okDb (s : Rw) (x y w : Int32) : Prop := isP s x ∧ isSh y ∧ ¬ w < 0 ∧ ¬ nI 12 < w
def v_debts (s : Rw) (S : Nat → Int32) (Z : Nat → Nat) (T : Nat → Nat → Int32) (x y z w : Int32) : Rw × Int32 :=
  if okDb s x y w then (if S y.toNatClampNeg = Int32.ofInt (-1) then (s, Int32.ofInt (-11)) else if S y.toNatClampNeg = nI 1 then (if w = nI 0 then (s, nI 0) else if z < 0 then (s, Int32.ofInt (-12)) else dbU x (T y.toNatClampNeg) (Z y.toNatClampNeg) z.toNatClampNeg w.toNatClampNeg 0 0 s) else (s, Int32.ofInt (-13))) else (s, Int32.ofInt (-1))
section I4s
variable {I I' : mI} {J : mJ} {s : Rw} {d k n q p i c m : Nat} {x y z u v w : Int32} {S : Nat → Int32} {Z : Nat → Nat} {T : Nat → Nat → Int32} {Tq : Nat → Int32}
theorem m246 (hw : wfS S Z) (hM : ShM I S Z T) : ∃ I', FSM I' I ∧ ShM I' (tr_S S x y z) (tr_Z Z x y z) (tr_T T x y z) ∧ am_cal (d + 3) 246 [.ref 229, .int x, .int y, .int z] (mS I J) = some (some (.int (v_sheet x y z)), mS I' J) := by
  have nope : ¬ okSt x y z → ∀ r, v_sheet x y z = r → am_cal (d + 3) 246 [.ref 229, .int x, .int y, .int z] (mS I J) = some (some (.int r), mS I J) → ∃ I', FSM I' I ∧ ShM I' (tr_S S x y z) (tr_Z Z x y z) (tr_T T x y z) ∧ am_cal (d + 3) 246 [.ref 229, .int x, .int y, .int z] (mS I J) = some (some (.int (v_sheet x y z)), mS I' J) := fun hn r hr h => by
    unfold tr_S tr_Z tr_T
    rw [if_neg hn, if_neg (fun h => hn h.1), if_neg (fun h => hn h.1), hr]
    exact ⟨I, fun _ _ _ _ => rfl, hM, h⟩
  by_cases hx : isSh x
  · by_cases hy : ¬ y < Int32.ofInt (-1) ∧ ¬ nI 4 < y
    · have e0 : am_cal (d + 3) 246 [.ref 229, .int x, .int y, .int z] (mS I J) = if y < 0 then am_X (am_cal (d + 2)) 246 22 [.ref 229, .int x, .int y, .int z, .null] [] (mS I J) else if nI 40 < z then some (some (.int (Int32.ofInt (-1))), mS I J) else if z < 0 then some (some (.int (Int32.ofInt (-14))), mS I J) else am_X (am_cal (d + 2)) 246 22 [.ref 229, .int x, .int y, .int z, .null] [] (mS I J) := by
        rw [c_246 lc_229, m245, bI_s, if_pos hx, if_neg (by decide), w_m1 (by decide), bI_s, if_pos hy, if_neg (by decide)]
        by_cases h : y < 0
        · rw [if_pos h, if_pos h, if_pos h]
        · rw [if_neg h, if_neg h, if_neg h]
      by_cases h1 : y = Int32.ofInt (-1)
      · have ho : okSt x y z := ⟨hx, hy, Or.inl h1⟩
        have hy0 : y < 0 := by rw [h1]; decide
        obtain ⟨q, hq, rfl⟩ := isSh_n hx
        obtain ⟨I', a1, a2, a3⟩ := e246 (d := d + 2) (J := J) hw hM hq ho
        refine ⟨I', a1, a2, ?_⟩
        rw [e0, if_pos hy0, a3]
        unfold v_sheet
        rw [if_pos ⟨hx, hy⟩, if_pos h1]
      · have hy0 : ¬ y < 0 := by
          obtain ⟨t, ht, rfl⟩ := n_le4 hy.1 h1 hy.2
          exact nI_pos (by omega)
        by_cases h40 : nI 40 < z
        · exact nope (fun h => by rcases h.2.2 with h | h; exact h1 h; exact h.1 h40) (Int32.ofInt (-1)) (by unfold v_sheet; rw [if_pos ⟨hx, hy⟩, if_neg h1, if_pos h40]) (by rw [e0, if_neg hy0, if_pos h40])
        · by_cases hz : z < 0
          · exact nope (fun h => by rcases h.2.2 with h | h; exact h1 h; exact h.2 hz) (Int32.ofInt (-14)) (by unfold v_sheet; rw [if_pos ⟨hx, hy⟩, if_neg h1, if_neg h40, if_pos hz]) (by rw [e0, if_neg hy0, if_neg h40, if_pos hz])
          · have ho : okSt x y z := ⟨hx, hy, Or.inr ⟨h40, hz⟩⟩
            obtain ⟨q, hq, rfl⟩ := isSh_n hx
            obtain ⟨I', a1, a2, a3⟩ := e246 (d := d + 2) (J := J) hw hM hq ho
            refine ⟨I', a1, a2, ?_⟩
            rw [e0, if_neg hy0, if_neg h40, if_neg hz, a3]
            unfold v_sheet
            rw [if_pos ⟨hx, hy⟩, if_neg h1, if_neg h40, if_neg hz]
    · exact nope (fun h => hy h.2.1) (Int32.ofInt (-1)) (by unfold v_sheet; rw [if_neg (fun h => hy h.2)]) (by rw [c_246 lc_229, m245, bI_s, if_pos hx, if_neg (by decide), w_m1 (by decide), bI_s, if_neg hy, if_pos nI_0])
  · exact nope (fun h => hx h.1) (Int32.ofInt (-1)) (by unfold v_sheet; rw [if_neg (fun h => hx h.1)]) (by rw [c_246 lc_229, m245, bI_s, if_neg hx, if_pos nI_0])
theorem m151p {y : Int32} (hn : n < 2 ^ 31) (hy : y = nI n) : am_cal (d + 1) 151 [.long x.toInt64, .long (lN 0), .long (y - nI 1).toInt64] (mS I J) = some (some (.int (if ¬ x < 0 ∧ x < nI n then nI 1 else nI 0)), mS I J) := by
  rw [m151h]
  by_cases h : x < 0
  · rw [if_neg (fun hh => hh.1 h), if_neg (fun hh => hh.1 h)]
  · have e := nlt_pred hn hy h
    by_cases h2 : x < y
    · rw [if_pos ⟨h, by rw [e]; exact h2⟩, if_pos ⟨h, by rw [← hy]; exact h2⟩]
    · rw [if_neg (fun hh => h2 (by rw [← e]; exact hh.2)), if_neg (fun hh => h2 (by rw [hy]; exact hh.2))]
theorem m248 (hw : wfS S Z) (hM : ShM I S Z T) : ∃ I', FSM I' I ∧ ShM I' S Z (tr_P S Z T x y z) ∧ am_cal (d + 3) 248 [.ref 229, .int x, .int y, .int z] (mS I J) = some (some (.int (v_put S Z x y)), mS I' J) := by
  have nope : ¬ okPt S Z x y → ∀ r, v_put S Z x y = r → am_cal (d + 3) 248 [.ref 229, .int x, .int y, .int z] (mS I J) = some (some (.int r), mS I J) → ∃ I', FSM I' I ∧ ShM I' S Z (tr_P S Z T x y z) ∧ am_cal (d + 3) 248 [.ref 229, .int x, .int y, .int z] (mS I J) = some (some (.int (v_put S Z x y)), mS I' J) := fun hn r hr h => by
    unfold tr_P
    rw [if_neg hn, hr]
    exact ⟨I, fun _ _ _ _ => rfl, hM, h⟩
  by_cases hx : isSh x
  · obtain ⟨q, hq, rfl⟩ := isSh_n hx
    have i0c : (nI (q)).toNatClampNeg = q := nI_clamp (by omega)
    have i0z : (nI (q) < 0) = False := n_ge0 (by omega)
    have i0l : (4 ≤ q) = False := n_lef (by omega)
    obtain ⟨c1, c2⟩ := hM q hq
    have wn := wfS_neg hw hq
    by_cases h1 : S q = Int32.ofInt (-1)
    · refine nope (fun h => h.2.1 (by rw [i0c]; exact h1)) (Int32.ofInt (-11)) (by unfold v_put; rw [if_pos hx, if_pos (by rw [i0c]; exact h1)]) ?_
      rw [c_248 lc_229, m245, bI_s, if_pos hx, if_neg (by decide)]
      simp only [lc_229, lr_229_25, lc_242, ll_242, i0c, i0z, i0l, c1, wn, eq_true h1, lc_229, lr_229_0, lc_230, ll_230, bq_s, mS_c, mS_l, mS_r, mS_i, mS_j, mS_pi, mS_pj, lt_st, bq_s, bV_s, bI_s, bJ_s, bA_s, nz_0, nc_0, nz_1, nc_1, nz_2, nc_2, nz_3, nc_3, nz_4, nc_4, nz_5, nc_5, nz_6, nc_6, nz_7, nc_7, nz_8, nc_8, nz_9, nc_9, nz_10, nc_10, nz_11, nc_11, nz_12, nc_12, if_true, if_false, eq_self, true_and, and_true, false_or, or_false, true_or, or_true, false_and, and_false, not_true, not_false_eq_true, ne_eq, ite_self, ite_not, ↓reduceIte]
    · obtain ⟨c3, c4⟩ := c2 h1
      have hZ := (hw q hq).2
      have e0 : am_cal (d + 3) 248 [.ref 229, .int (nI q), .int y, .int z] (mS I J) = am_bI (am_cal (d + 2) 151 [.long (Int32.toInt64 y), .long (lN 0), .long (Int32.toInt64 (nI (Z q) - nI 1))] (mS I J)) fun v6 S5 => if v6 = 0 then some (some (.int (Int32.ofInt (-12))), S5) else if am_c S5 229 = 12 then (am_bq (am_r S5 229 27) fun r7 => if am_c S5 229 = 12 then (am_bq (am_r S5 229 25) fun r8 => if am_c S5 r8 = 100 then (if nI q < 0 ∨ am_l S5 r8 ≤ Int32.toNatClampNeg (nI q) then none else (am_bI ((am_cal (d + 2)) 247 [.int (am_i S5 r8 (Int32.toNatClampNeg (nI q))), .int z] S5) fun v10 S9 => if am_c S9 r7 = 100 then (if (((nI 40) * (nI q)) + y) < 0 ∨ am_l S9 r7 ≤ Int32.toNatClampNeg (((nI 40) * (nI q)) + y) then none else (am_lt (am_pi S9 r7 (Int32.toNatClampNeg (((nI 40) * (nI q)) + y)) v10) fun S11 => some (some (.int (nI 1)), S11))) else none)) else none) else none) else none := by
        rw [c_248 lc_229, m245, bI_s, if_pos hx, if_neg (by decide)]
        simp only [lc_229, lr_229_25, lr_229_26, lc_242, ll_242, lc_243, ll_243, i0c, i0z, i0l, c1, wn, eq_false h1, c3, lc_229, lr_229_0, lc_230, ll_230, bq_s, mS_c, mS_l, mS_r, mS_i, mS_j, mS_pi, mS_pj, lt_st, bq_s, bV_s, bI_s, bJ_s, bA_s, nz_0, nc_0, nz_1, nc_1, nz_2, nc_2, nz_3, nc_3, nz_4, nc_4, nz_5, nc_5, nz_6, nc_6, nz_7, nc_7, nz_8, nc_8, nz_9, nc_9, nz_10, nc_10, nz_11, nc_11, nz_12, nc_12, if_true, if_false, eq_self, true_and, and_true, false_or, or_false, true_or, or_true, false_and, and_false, not_true, not_false_eq_true, ne_eq, ite_self, ite_not, ↓reduceIte]
      rw [m151p (show Z q < 2 ^ 31 by omega) rfl, bI_s] at e0
      by_cases hy : y < 0
      · refine nope (fun h => h.2.2.1 hy) (Int32.ofInt (-12)) (by unfold v_put; rw [if_pos hx, if_neg (by rw [i0c]; exact h1), if_neg (fun h => h.1 hy)]) ?_
        rw [e0, if_neg (show ¬ (¬ y < 0 ∧ y < nI (Z q)) from fun h => h.1 hy), if_pos nI_0]
      · by_cases hz : y < nI (Z q)
        · rw [if_pos (show ¬ y < 0 ∧ y < nI (Z q) from ⟨hy, hz⟩), if_neg (by decide)] at e0
          have hok : okPt S Z (nI q) y := ⟨hx, by rw [i0c]; exact h1, hy, by rw [i0c]; exact hz⟩
          unfold tr_P v_put
          rw [if_pos hok, if_pos hx, if_neg (by rw [i0c]; exact h1), if_pos (by rw [i0c]; exact ⟨hy, hz⟩), i0c, e0]
          obtain ⟨i, hi, rfl⟩ := n_below (show Z q < 2 ^ 31 by omega) hy hz
          have i1c : (nI (40 * q + i)).toNatClampNeg = 40 * q + i := nI_clamp (by omega)
          have i1z : (nI (40 * q + i) < 0) = False := n_ge0 (by omega)
          have i1l : (160 ≤ 40 * q + i) = False := n_lef (by omega)
          have p0 : nI 40 * nI q = nI (40 * q) := pk_mul _ _
          have ic : (nI i).toNatClampNeg = i := nI_clamp (by omega)
          refine ⟨wI I 244 (40 * q + i) (v_nar (S q) z), fun a _ _ ha => wI_F1 a ha, fun p hp => ?_, ?_⟩
          · rw [wI_F1 242 (by decide), wI_F1 243 (by decide)]
            by_cases e : p = q
            · subst e
              refine ⟨c1, fun h => ⟨c3, fun k hk => ?_⟩⟩
              rw [upA_eq, ic]
              by_cases ek : k = i
              · subst ek; rw [wI_eq, upA_eq]
              · rw [wI_nk (by omega), upA_ne ek]; exact c4 k hk
            · rw [upA_ne e]
              refine ⟨(hM p hp).1, fun h => ⟨((hM p hp).2 h).1, fun k hk => ?_⟩⟩
              have := (hw p hp).2
              rw [wI_nk (by omega)]
              exact ((hM p hp).2 h).2 k hk
          · simp only [lr_229_27, lc_244, ll_244, lc_229, lr_229_25, lc_242, ll_242, i0c, i0z, i0l, i1c, i1z, i1l, p0, nI_add, c1, m247, lc_229, lr_229_0, lc_230, ll_230, bq_s, mS_c, mS_l, mS_r, mS_i, mS_j, mS_pi, mS_pj, lt_st, bq_s, bV_s, bI_s, bJ_s, bA_s, nz_0, nc_0, nz_1, nc_1, nz_2, nc_2, nz_3, nc_3, nz_4, nc_4, nz_5, nc_5, nz_6, nc_6, nz_7, nc_7, nz_8, nc_8, nz_9, nc_9, nz_10, nc_10, nz_11, nc_11, nz_12, nc_12, if_true, if_false, eq_self, true_and, and_true, false_or, or_false, true_or, or_true, false_and, and_false, not_true, not_false_eq_true, ne_eq, ite_self, ite_not, ↓reduceIte]
        · refine nope (fun h => hz (by rw [← i0c]; exact h.2.2.2)) (Int32.ofInt (-12)) (by unfold v_put; rw [if_pos hx, if_neg (by rw [i0c]; exact h1), if_neg (fun h => hz (by rw [← i0c]; exact h.2))]) ?_
          rw [e0, if_neg (show ¬ (¬ y < 0 ∧ y < nI (Z q)) from fun h => hz h.2), if_pos nI_0]
  · exact nope (fun h => hx h.1) (Int32.ofInt (-1)) (by unfold v_put; rw [if_neg hx]) (by rw [c_248 lc_229, m245, bI_s, if_neg hx, if_pos nI_0])
theorem m249 (hw : wfS S Z) (hM : ShM I S Z T) (hq : q < 4) : am_cal (d + 1) 249 [.ref 229, .int (nI q), .int y] (mS I J) = some (some (.int (if S q = Int32.ofInt (-1) then Int32.ofInt (-11) else if S q = y then nI 0 else Int32.ofInt (-13))), mS I J) := by
  have i0c : (nI (q)).toNatClampNeg = q := nI_clamp (by omega)
  have i0z : (nI (q) < 0) = False := n_ge0 (by omega)
  have i0l : (4 ≤ q) = False := n_lef (by omega)
  obtain ⟨c1, c2⟩ := hM q hq
  have wn := wfS_neg hw hq
  rw [c_249 lc_229]
  by_cases h1 : S q = Int32.ofInt (-1)
  · simp only [lc_229, lr_229_25, lc_242, ll_242, i0c, i0z, i0l, c1, wn, eq_true h1, lc_229, lr_229_0, lc_230, ll_230, bq_s, mS_c, mS_l, mS_r, mS_i, mS_j, mS_pi, mS_pj, lt_st, bq_s, bV_s, bI_s, bJ_s, bA_s, nz_0, nc_0, nz_1, nc_1, nz_2, nc_2, nz_3, nc_3, nz_4, nc_4, nz_5, nc_5, nz_6, nc_6, nz_7, nc_7, nz_8, nc_8, nz_9, nc_9, nz_10, nc_10, nz_11, nc_11, nz_12, nc_12, if_true, if_false, eq_self, true_and, and_true, false_or, or_false, true_or, or_true, false_and, and_false, not_true, not_false_eq_true, ne_eq, ite_self, ite_not, ↓reduceIte]
  · by_cases h2 : S q = y
    · simp only [lc_229, lr_229_25, lc_242, ll_242, i0c, i0z, i0l, c1, wn, eq_false h1, if_pos h2, lc_229, lr_229_0, lc_230, ll_230, bq_s, mS_c, mS_l, mS_r, mS_i, mS_j, mS_pi, mS_pj, lt_st, bq_s, bV_s, bI_s, bJ_s, bA_s, nz_0, nc_0, nz_1, nc_1, nz_2, nc_2, nz_3, nc_3, nz_4, nc_4, nz_5, nc_5, nz_6, nc_6, nz_7, nc_7, nz_8, nc_8, nz_9, nc_9, nz_10, nc_10, nz_11, nc_11, nz_12, nc_12, if_true, if_false, eq_self, true_and, and_true, false_or, or_false, true_or, or_true, false_and, and_false, not_true, not_false_eq_true, ne_eq, ite_self, ite_not, ↓reduceIte]
    · simp only [lc_229, lr_229_25, lc_242, ll_242, i0c, i0z, i0l, c1, wn, eq_false h1, if_neg h2, lc_229, lr_229_0, lc_230, ll_230, bq_s, mS_c, mS_l, mS_r, mS_i, mS_j, mS_pi, mS_pj, lt_st, bq_s, bV_s, bI_s, bJ_s, bA_s, nz_0, nc_0, nz_1, nc_1, nz_2, nc_2, nz_3, nc_3, nz_4, nc_4, nz_5, nc_5, nz_6, nc_6, nz_7, nc_7, nz_8, nc_8, nz_9, nc_9, nz_10, nc_10, nz_11, nc_11, nz_12, nc_12, if_true, if_false, eq_self, true_and, and_true, false_or, or_false, true_or, or_true, false_and, and_false, not_true, not_false_eq_true, ne_eq, ite_self, ite_not, ↓reduceIte]
theorem m250 (hw : wfS S Z) (hM : ShM I S Z T) : am_cal (d + 3) 250 [.ref 229, .int x, .int y, .int z] (mS I J) = some (some (.int (v_item S Z T x y z)), mS I J) := by
  have n11 : (Int32.ofInt (-11) = 0) = False := eq_false (by decide)
  have n13 : (Int32.ofInt (-13) = 0) = False := eq_false (by decide)
  unfold v_item
  rw [c_250 lc_229, m245, bI_s]
  by_cases hx : isSh x
  · rw [if_pos hx, if_neg (by decide), m151 (by decide) (by decide), bI_s]
    by_cases h : ¬ y < nI 0 ∧ ¬ nI 4 < y
    · have hok : isSh x ∧ ¬ y < 0 ∧ ¬ nI 4 < y := ⟨hx, by rw [n_i0]; exact h⟩
      rw [if_pos h, if_neg (by decide), if_pos hok]
      obtain ⟨q, hq, rfl⟩ := isSh_n hx
      have i0c : (nI (q)).toNatClampNeg = q := nI_clamp (by omega)
      have i0z : (nI (q) < 0) = False := n_ge0 (by omega)
      have i0l : (4 ≤ q) = False := n_lef (by omega)
      obtain ⟨c1, c2⟩ := hM q hq
      rw [m249 hw hM hq, bI_s, i0c]
      by_cases h1 : S q = Int32.ofInt (-1)
      · rw [if_pos h1, if_pos h1, if_neg (by decide)]
      · obtain ⟨c3, c4⟩ := c2 h1
        have hZ := (hw q hq).2
        rw [if_neg h1, if_neg h1]
        by_cases h2 : S q = y
        · rw [if_pos h2, if_pos h2, if_pos nI_0]
          simp only [lc_229, lr_229_26, lc_243, ll_243, i0c, i0z, i0l, c3, m151p (show Z q < 2 ^ 31 by omega) rfl, lc_229, lr_229_0, lc_230, ll_230, bq_s, mS_c, mS_l, mS_r, mS_i, mS_j, mS_pi, mS_pj, lt_st, bq_s, bV_s, bI_s, bJ_s, bA_s, nz_0, nc_0, nz_1, nc_1, nz_2, nc_2, nz_3, nc_3, nz_4, nc_4, nz_5, nc_5, nz_6, nc_6, nz_7, nc_7, nz_8, nc_8, nz_9, nc_9, nz_10, nc_10, nz_11, nc_11, nz_12, nc_12, if_true, if_false, eq_self, true_and, and_true, false_or, or_false, true_or, or_true, false_and, and_false, not_true, not_false_eq_true, ne_eq, ite_self, ite_not, ↓reduceIte]
          by_cases hz : z < 0
          · rw [if_neg (show ¬ (¬ z < 0 ∧ z < nI (Z q)) from fun h => h.1 hz), if_pos nI_0, if_neg (show ¬ (¬ z < 0 ∧ z < nI (Z q)) from fun h => h.1 hz)]
          · by_cases hz2 : z < nI (Z q)
            · rw [if_pos (show ¬ z < 0 ∧ z < nI (Z q) from ⟨hz, hz2⟩), if_neg (by decide), if_pos (show ¬ z < 0 ∧ z < nI (Z q) from ⟨hz, hz2⟩)]
              obtain ⟨i, hi, rfl⟩ := n_below (show Z q < 2 ^ 31 by omega) hz hz2
              have i1c : (nI (40 * q + i)).toNatClampNeg = 40 * q + i := nI_clamp (by omega)
              have i1z : (nI (40 * q + i) < 0) = False := n_ge0 (by omega)
              have i1l : (160 ≤ 40 * q + i) = False := n_lef (by omega)
              have p0 : nI 40 * nI q = nI (40 * q) := pk_mul _ _
              have ic : (nI i).toNatClampNeg = i := nI_clamp (by omega)
              simp only [lr_229_27, lc_244, ll_244, lc_229, i0c, i0z, i0l, i1c, i1z, i1l, p0, nI_add, ic, c4 i hi, lc_229, lr_229_0, lc_230, ll_230, bq_s, mS_c, mS_l, mS_r, mS_i, mS_j, mS_pi, mS_pj, lt_st, bq_s, bV_s, bI_s, bJ_s, bA_s, nz_0, nc_0, nz_1, nc_1, nz_2, nc_2, nz_3, nc_3, nz_4, nc_4, nz_5, nc_5, nz_6, nc_6, nz_7, nc_7, nz_8, nc_8, nz_9, nc_9, nz_10, nc_10, nz_11, nc_11, nz_12, nc_12, if_true, if_false, eq_self, true_and, and_true, false_or, or_false, true_or, or_true, false_and, and_false, not_true, not_false_eq_true, ne_eq, ite_self, ite_not, ↓reduceIte]
            · rw [if_neg (show ¬ (¬ z < 0 ∧ z < nI (Z q)) from fun h => hz2 h.2), if_pos nI_0, if_neg (show ¬ (¬ z < 0 ∧ z < nI (Z q)) from fun h => hz2 h.2)]
        · rw [if_neg h2, if_neg h2, if_neg (by decide)]
    · rw [if_neg h, if_pos nI_0, if_neg (fun hh => h (by rw [← n_i0]; exact hh.2))]
  · rw [if_neg hx, if_pos nI_0, if_neg (fun h => hx h.1)]
end I4s
