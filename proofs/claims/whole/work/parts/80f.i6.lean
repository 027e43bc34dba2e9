/-! ===== shelves ===== -/
def SlC (I : mI) (W : Nat → Nat) (H Y : Nat → Int32) : Prop := ∀ q, q < 4 → (W q = 0 ∧ I 227 q = nI 0 ∧ I 228 q = H q) ∨ (W q = 1 ∧ I 227 q = nI 1 ∧ I 228 q = H q) ∨ (W q = 2 ∧ (∃ t, t ≤ 4 ∧ H q = nI t ∧ I 227 q = nI (10 + t)) ∧ I 228 q = Y q) ∨ (W q = 3 ∧ I 227 q = Int32.ofInt (-1))
def SlM (I : mI) (W : Nat → Nat) (H Y : Nat → Int32) : Prop := ∀ q, q < 4 → W q ≤ 3 ∧ I 245 q = nI (W q) ∧ (¬ W q = 3 → I 246 q = H q) ∧ (W q = 2 → I 247 q = Y q ∧ ∃ t, t ≤ 4 ∧ H q = nI t)
abbrev okSl (s : Rw) (x y z : Int32) : Prop := isSh x ∧ ((y = nI 0 ∧ isP s z) ∨ (y = nI 1 ∧ isCl s z) ∨ (y = nI 2 ∧ isSh z) ∨ y = nI 3)
def v_shelf (s : Rw) (x y z : Int32) : Int32 := if okSl s x y z then nI 1 else Int32.ofInt (-1)
abbrev isRw (S : Nat → Int32) (y z : Int32) : Prop := y = nI 2 ∧ ¬ S z.toNatClampNeg = Int32.ofInt (-1)
def tr_W (s : Rw) (S : Nat → Int32) (W : Nat → Nat) (x y z : Int32) : Nat → Nat := if okSl s x y z then upA W x.toNatClampNeg (if y = nI 2 then (if isRw S y z then 2 else 3) else y.toNatClampNeg) else W
def tr_H (s : Rw) (S : Nat → Int32) (H : Nat → Int32) (x y z : Int32) : Nat → Int32 := if okSl s x y z then upA H x.toNatClampNeg (if isRw S y z then S z.toNatClampNeg else z) else H
def tr_Y (s : Rw) (S : Nat → Int32) (Z : Nat → Nat) (Y : Nat → Int32) (x y z : Int32) : Nat → Int32 := if okSl s x y z then upA Y x.toNatClampNeg (if isRw S y z then nI (Z z.toNatClampNeg) else nI 0) else Y
section I6s
variable {I I' : mI} {J : mJ} {s : Rw} {d k n q p i c m : Nat} {x y z u v w : Int32} {S : Nat → Int32} {Z : Nat → Nat} {T : Nat → Nat → Int32} {W : Nat → Nat} {H Y : Nat → Int32}
theorem k139 (hq : q < 4) : am_cal (d + 1) 139 [.ref 0, .int (nI q), .int x, .int y] (mS I J) = some (some (.int (nI 1)), mS (wI (wI I 227 q x) 228 q y) J) := by
  have i0c : (nI (q)).toNatClampNeg = q := nI_clamp (by omega)
  have i0z : (nI (q) < 0) = False := n_ge0 (by omega)
  have i0l : (4 ≤ q) = False := n_lef (by omega)
  rw [c_139 lc_0]
  simp only [lc_0, lr_0_14, lr_0_15, lc_227, ll_227, lc_228, ll_228, i0c, i0z, i0l, bq_s, mS_c, mS_l, mS_r, mS_i, mS_j, mS_pi, mS_pj, lt_st, bq_s, bV_s, bI_s, bJ_s, bA_s, nz_0, nc_0, nz_1, nc_1, nz_2, nc_2, nz_3, nc_3, nz_4, nc_4, nz_5, nc_5, nz_6, nc_6, nz_7, nc_7, nz_8, nc_8, nz_9, nc_9, nz_10, nc_10, nz_11, nc_11, nz_12, nc_12, if_true, if_false, eq_self, true_and, and_true, false_or, or_false, true_or, or_true, false_and, and_false, not_true, not_false_eq_true, ne_eq, ite_self, ite_not, ↓reduceIte, n_101, n_107, n_11]
theorem lay_o {a b : Int32} {q p : Nat} (e : p ≠ q) : wI (wI I 227 q a) 228 q b 227 p = I 227 p ∧ wI (wI I 227 q a) 228 q b 228 p = I 228 p := by
  constructor
  · rw [wI_nk e, wI_nk e]
  · rw [wI_nk e, wI_nk e]
theorem lay_q {a b : Int32} {q : Nat} : wI (wI I 227 q a) 228 q b 227 q = a ∧ wI (wI I 227 q a) 228 q b 228 q = b := by
  constructor
  · rw [wI_ne (by decide), wI_eq]
  · rw [wI_eq]
abbrev FL (I' I : mI) : Prop := ∀ a, a ≠ 227 → a ≠ 228 → I' a = I a
theorem k132 (hw : wfS S Z) (hC : ShC I S Z T) (hL : SlC I W H Y) (hR : Rep I 1 s) (hW : WF s) : ∃ I', FL I' I ∧ SlC I' (tr_W s S W x y z) (tr_H s S H x y z) (tr_Y s S Z Y x y z) ∧ am_cal (d + 3) 132 [.ref 0, .int x, .int y, .int z] (mS I J) = some (some (.int (v_shelf s x y z)), mS I' J) := by
  have nope : ¬ okSl s x y z → am_cal (d + 3) 132 [.ref 0, .int x, .int y, .int z] (mS I J) = some (some (.int (Int32.ofInt (-1))), mS I J) → ∃ I', FL I' I ∧ SlC I' (tr_W s S W x y z) (tr_H s S H x y z) (tr_Y s S Z Y x y z) ∧ am_cal (d + 3) 132 [.ref 0, .int x, .int y, .int z] (mS I J) = some (some (.int (v_shelf s x y z)), mS I' J) := fun hn h => by
    unfold tr_W tr_H tr_Y v_shelf
    rw [if_neg hn, if_neg hn, if_neg hn, if_neg hn]
    exact ⟨I, fun _ _ _ => rfl, hL, h⟩
  have fl : ∀ (q : Nat) (a b : Int32), FL (wI (wI I 227 q a) 228 q b) I := fun q a b c h1 h2 => by rw [wI_F1 c h2, wI_F1 c h1]
  have e0 : am_cal (d + 3) 132 [.ref 0, .int x, .int y, .int z] (mS I J) = _ := c_132 lc_0
  rw [k146, bI_s] at e0
  by_cases hx : isSh x
  · rw [if_pos hx, if_neg (by decide)] at e0
    obtain ⟨q, hq, rfl⟩ := isSh_n hx
    have qc : (nI q).toNatClampNeg = q := nI_clamp (by omega)
    have gen : ∀ (a b c e : Int32) (wv : Nat), okSl s (nI q) y z → (if y = nI 2 then (if isRw S y z then 2 else 3) else y.toNatClampNeg) = wv → (if isRw S y z then S z.toNatClampNeg else z) = c → (if isRw S y z then nI (Z z.toNatClampNeg) else nI 0) = e → ((wv = 0 ∧ a = nI 0 ∧ b = c) ∨ (wv = 1 ∧ a = nI 1 ∧ b = c) ∨ (wv = 2 ∧ (∃ t, t ≤ 4 ∧ c = nI t ∧ a = nI (10 + t)) ∧ b = e) ∨ (wv = 3 ∧ a = Int32.ofInt (-1))) → am_cal (d + 3) 132 [.ref 0, .int (nI q), .int y, .int z] (mS I J) = some (some (.int (nI 1)), mS (wI (wI I 227 q a) 228 q b) J) → ∃ I', FL I' I ∧ SlC I' (tr_W s S W (nI q) y z) (tr_H s S H (nI q) y z) (tr_Y s S Z Y (nI q) y z) ∧ am_cal (d + 3) 132 [.ref 0, .int (nI q), .int y, .int z] (mS I J) = some (some (.int (v_shelf s (nI q) y z)), mS I' J) := fun a b c e wv ho hwv hc he hh h => by
      unfold tr_W tr_H tr_Y v_shelf
      rw [if_pos ho, if_pos ho, if_pos ho, if_pos ho, hwv, hc, he, qc]
      refine ⟨_, fl q a b, fun p hp => ?_, h⟩
      by_cases e : p = q
      · subst e
        rw [lay_q.1, lay_q.2, upA_eq, upA_eq, upA_eq]
        exact hh
      · rw [(lay_o e).1, (lay_o e).2, upA_ne e, upA_ne e, upA_ne e]
        exact hL p hp
    by_cases y0 : y = nI 0
    · subst y0
      rw [if_pos rfl] at e0
      simp only [lc_0, lr_0_0, k65 W1 hR, bq_s, mS_c, mS_l, mS_r, mS_i, mS_j, mS_pi, mS_pj, lt_st, bq_s, bV_s, bI_s, bJ_s, bA_s, nz_0, nc_0, nz_1, nc_1, nz_2, nc_2, nz_3, nc_3, nz_4, nc_4, nz_5, nc_5, nz_6, nc_6, nz_7, nc_7, nz_8, nc_8, nz_9, nc_9, nz_10, nc_10, nz_11, nc_11, nz_12, nc_12, if_true, if_false, eq_self, true_and, and_true, false_or, or_false, true_or, or_true, false_and, and_false, not_true, not_false_eq_true, ne_eq, ite_self, ite_not, ↓reduceIte, n_101, n_107, n_11] at e0
      have nr : ¬ isRw S (nI 0) z := fun h => absurd h.1 (by decide)
      by_cases hz : isP s z
      · rw [if_pos hz, if_neg (by decide), k139 hq, bI_s] at e0
        exact gen (nI 0) z z (nI 0) 0 ⟨hx, Or.inl ⟨rfl, hz⟩⟩ (by rw [if_neg (by decide)]; exact nc_0) (if_neg nr) (if_neg nr) (Or.inl ⟨rfl, rfl, rfl⟩) e0
      · rw [if_neg hz, if_pos nI_0] at e0
        exact nope (fun h => by rcases h.2 with h | h | h | h; exact hz h.2; exact absurd h.1 (by decide); exact absurd h.1 (by decide); exact absurd h (by decide)) e0
    · rw [if_neg y0] at e0
      by_cases y1 : y = nI 1
      · subst y1
        rw [if_pos rfl] at e0
        simp only [lc_0, lr_0_0, k66 W1 hR, bq_s, mS_c, mS_l, mS_r, mS_i, mS_j, mS_pi, mS_pj, lt_st, bq_s, bV_s, bI_s, bJ_s, bA_s, nz_0, nc_0, nz_1, nc_1, nz_2, nc_2, nz_3, nc_3, nz_4, nc_4, nz_5, nc_5, nz_6, nc_6, nz_7, nc_7, nz_8, nc_8, nz_9, nc_9, nz_10, nc_10, nz_11, nc_11, nz_12, nc_12, if_true, if_false, eq_self, true_and, and_true, false_or, or_false, true_or, or_true, false_and, and_false, not_true, not_false_eq_true, ne_eq, ite_self, ite_not, ↓reduceIte, n_101, n_107, n_11] at e0
        have nr : ¬ isRw S (nI 1) z := fun h => absurd h.1 (by decide)
        by_cases hz : isCl s z
        · rw [if_pos hz, if_neg (by decide), k139 hq, bI_s] at e0
          exact gen (nI 1) z z (nI 0) 1 ⟨hx, Or.inr (Or.inl ⟨rfl, hz⟩)⟩ (by rw [if_neg (by decide)]; exact nc_1) (if_neg nr) (if_neg nr) (Or.inr (Or.inl ⟨rfl, rfl, rfl⟩)) e0
        · rw [if_neg hz, if_pos nI_0] at e0
          exact nope (fun h => by rcases h.2 with h | h | h | h; exact absurd h.1 (by decide); exact hz h.2; exact absurd h.1 (by decide); exact absurd h (by decide)) e0
      · rw [if_neg y1] at e0
        by_cases y2 : y = nI 2
        · subst y2
          rw [if_pos rfl, k145, bI_s] at e0
          by_cases hz : isSh z
          · rw [if_pos hz, if_neg (by decide)] at e0
            obtain ⟨r, hr, rfl⟩ := isSh_n hz
            have i0c : (nI (r)).toNatClampNeg = r := nI_clamp (by omega)
            have i0z : (nI (r) < 0) = False := n_ge0 (by omega)
            have i0l : (4 ≤ r) = False := n_lef (by omega)
            obtain ⟨c1, c2⟩ := hC r hr
            have ho : okSl s (nI q) (nI 2) (nI r) := ⟨hx, Or.inr (Or.inr (Or.inl ⟨rfl, hz⟩))⟩
            rw [c_140 lc_0] at e0
            by_cases h1 : S r = Int32.ofInt (-1)
            · have nr : ¬ isRw S (nI 2) (nI r) := fun h => h.2 (by rw [i0c]; exact h1)
              rw [h1] at c1
              simp only [lc_0, lr_0_12, lc_225, ll_225, i0c, i0z, i0l, c1, k139 hq, bq_s, mS_c, mS_l, mS_r, mS_i, mS_j, mS_pi, mS_pj, lt_st, bq_s, bV_s, bI_s, bJ_s, bA_s, nz_0, nc_0, nz_1, nc_1, nz_2, nc_2, nz_3, nc_3, nz_4, nc_4, nz_5, nc_5, nz_6, nc_6, nz_7, nc_7, nz_8, nc_8, nz_9, nc_9, nz_10, nc_10, nz_11, nc_11, nz_12, nc_12, if_true, if_false, eq_self, true_and, and_true, false_or, or_false, true_or, or_true, false_and, and_false, not_true, not_false_eq_true, ne_eq, ite_self, ite_not, ↓reduceIte, n_101, n_107, n_11] at e0
              exact gen (Int32.ofInt (-1)) (nI 0) (nI r) (nI 0) 3 ho (by rw [if_pos rfl, if_neg nr]) (if_neg nr) (if_neg nr) (Or.inr (Or.inr (Or.inr ⟨rfl, rfl⟩))) e0
            · obtain ⟨c3, c4⟩ := c2 h1
              have nr : isRw S (nI 2) (nI r) := ⟨rfl, by rw [i0c]; exact h1⟩
              simp only [lc_0, lr_0_12, lc_225, ll_225, lr_0_13, lc_226, ll_226, i0c, i0z, i0l, c1, c3, if_neg h1, k139 hq, bq_s, mS_c, mS_l, mS_r, mS_i, mS_j, mS_pi, mS_pj, lt_st, bq_s, bV_s, bI_s, bJ_s, bA_s, nz_0, nc_0, nz_1, nc_1, nz_2, nc_2, nz_3, nc_3, nz_4, nc_4, nz_5, nc_5, nz_6, nc_6, nz_7, nc_7, nz_8, nc_8, nz_9, nc_9, nz_10, nc_10, nz_11, nc_11, nz_12, nc_12, if_true, if_false, eq_self, true_and, and_true, false_or, or_false, true_or, or_true, false_and, and_false, not_true, not_false_eq_true, ne_eq, ite_self, ite_not, ↓reduceIte, n_101, n_107, n_11] at e0
              obtain ⟨t, ht, hS⟩ : ∃ t, t ≤ 4 ∧ S r = nI t := by
                rcases (hw r hr).1 with h | h
                · exact absurd h h1
                · exact h
              exact gen (nI 10 + S r) (nI (Z r)) (S r) (nI (Z r)) 2 ho (by rw [if_pos rfl, if_pos nr]) (by rw [if_pos nr, i0c]) (by rw [if_pos nr, i0c]) (Or.inr (Or.inr (Or.inl ⟨rfl, ⟨t, ht, hS, by rw [hS, nI_add]⟩, rfl⟩))) e0
          · rw [if_neg hz, if_pos nI_0] at e0
            exact nope (fun h => by rcases h.2 with h | h | h | h; exact absurd h.1 (by decide); exact absurd h.1 (by decide); exact hz h.2; exact absurd h (by decide)) e0
        · rw [if_neg y2] at e0
          by_cases y3 : y = nI 3
          · subst y3
            rw [if_pos rfl, k139 hq, bI_s] at e0
            have nr : ¬ isRw S (nI 3) z := fun h => absurd h.1 (by decide)
            exact gen (Int32.ofInt (-1)) (nI 0) z (nI 0) 3 ⟨hx, Or.inr (Or.inr (Or.inr rfl))⟩ (by rw [if_neg (by decide)]; exact nc_3) (if_neg nr) (if_neg nr) (Or.inr (Or.inr (Or.inr ⟨rfl, rfl⟩))) e0
          · rw [if_neg y3] at e0
            exact nope (fun h => by rcases h.2 with h | h | h | h; exact y0 h.1; exact y1 h.1; exact y2 h.1; exact y3 h) e0
  · rw [if_neg hx, if_pos nI_0] at e0
    exact nope (fun h => hx h.1) e0
/-! the model -/
abbrev FLM (I' I : mI) : Prop := ∀ a, a ≠ 245 → a ≠ 246 → a ≠ 247 → I' a = I a
theorem m252e (hq : q < 4) (hn : ¬ x = nI 2) : am_X (am_cal d) 252 41 [.ref 229, .int (nI q), .int x, .int z, .null] [.int (nI 0)] (mS I J) = some (some (.int (nI 1)), mS (wI (wI (wI I 245 q x) 246 q z) 247 q (nI 0)) J) := by
  have i0c : (nI (q)).toNatClampNeg = q := nI_clamp (by omega)
  have i0z : (nI (q) < 0) = False := n_ge0 (by omega)
  have i0l : (4 ≤ q) = False := n_lef (by omega)
  rw [e_252_41]
  simp only [lc_229, lr_229_28, if_neg hn, lc_229, lr_229_0, lc_230, ll_230, bq_s, mS_c, mS_l, mS_r, mS_i, mS_j, mS_pi, mS_pj, lt_st, bq_s, bV_s, bI_s, bJ_s, bA_s, nz_0, nc_0, nz_1, nc_1, nz_2, nc_2, nz_3, nc_3, nz_4, nc_4, nz_5, nc_5, nz_6, nc_6, nz_7, nc_7, nz_8, nc_8, nz_9, nc_9, nz_10, nc_10, nz_11, nc_11, nz_12, nc_12, if_true, if_false, eq_self, true_and, and_true, false_or, or_false, true_or, or_true, false_and, and_false, not_true, not_false_eq_true, ne_eq, ite_self, ite_not, ↓reduceIte]
  rw [e_252_53]
  simp only [lc_245, ll_245, lc_229, lr_229_29, i0c, i0z, i0l, z_t, lc_229, lr_229_0, lc_230, ll_230, bq_s, mS_c, mS_l, mS_r, mS_i, mS_j, mS_pi, mS_pj, lt_st, bq_s, bV_s, bI_s, bJ_s, bA_s, nz_0, nc_0, nz_1, nc_1, nz_2, nc_2, nz_3, nc_3, nz_4, nc_4, nz_5, nc_5, nz_6, nc_6, nz_7, nc_7, nz_8, nc_8, nz_9, nc_9, nz_10, nc_10, nz_11, nc_11, nz_12, nc_12, if_true, if_false, eq_self, true_and, and_true, false_or, or_false, true_or, or_true, false_and, and_false, not_true, not_false_eq_true, ne_eq, ite_self, ite_not, ↓reduceIte]
  rw [e_252_65]
  simp only [lc_246, ll_246, lc_229, lr_229_30, lc_247, ll_247, i0c, i0z, i0l, z_t, lc_229, lr_229_0, lc_230, ll_230, bq_s, mS_c, mS_l, mS_r, mS_i, mS_j, mS_pi, mS_pj, lt_st, bq_s, bV_s, bI_s, bJ_s, bA_s, nz_0, nc_0, nz_1, nc_1, nz_2, nc_2, nz_3, nc_3, nz_4, nc_4, nz_5, nc_5, nz_6, nc_6, nz_7, nc_7, nz_8, nc_8, nz_9, nc_9, nz_10, nc_10, nz_11, nc_11, nz_12, nc_12, if_true, if_false, eq_self, true_and, and_true, false_or, or_false, true_or, or_true, false_and, and_false, not_true, not_false_eq_true, ne_eq, ite_self, ite_not, ↓reduceIte]
theorem m252 (hw : wfS S Z) (hC : ShM I S Z T) (hL : SlM I W H Y) (hW : WF (I 230)) : ∃ I', FLM I' I ∧ SlM I' (tr_W (I 230) S W x y z) (tr_H (I 230) S H x y z) (tr_Y (I 230) S Z Y x y z) ∧ am_cal (d + 3) 252 [.ref 229, .int x, .int y, .int z] (mS I J) = some (some (.int (v_shelf (I 230) x y z)), mS I' J) := by
  have nope : ¬ okSl (I 230) x y z → am_cal (d + 3) 252 [.ref 229, .int x, .int y, .int z] (mS I J) = some (some (.int (Int32.ofInt (-1))), mS I J) → ∃ I', FLM I' I ∧ SlM I' (tr_W (I 230) S W x y z) (tr_H (I 230) S H x y z) (tr_Y (I 230) S Z Y x y z) ∧ am_cal (d + 3) 252 [.ref 229, .int x, .int y, .int z] (mS I J) = some (some (.int (v_shelf (I 230) x y z)), mS I' J) := fun hn h => by
    unfold tr_W tr_H tr_Y v_shelf
    rw [if_neg hn, if_neg hn, if_neg hn, if_neg hn]
    exact ⟨I, fun _ _ _ _ => rfl, hL, h⟩
  have e0 : am_cal (d + 3) 252 [.ref 229, .int x, .int y, .int z] (mS I J) = _ := c_252 lc_229
  rw [m245, bI_s] at e0
  by_cases hx : isSh x
  · rw [if_pos hx, if_neg (by decide), m151 (by decide) (by decide), bI_s] at e0
    obtain ⟨q, hq, rfl⟩ := isSh_n hx
    have qc : (nI q).toNatClampNeg = q := nI_clamp (by omega)
    have j0c : (nI (q)).toNatClampNeg = q := nI_clamp (by omega)
    have j0z : (nI (q) < 0) = False := n_ge0 (by omega)
    have j0l : (4 ≤ q) = False := n_lef (by omega)
    have gen : ∀ (a b c e g : Int32) (wv : Nat), wv ≤ 3 → a = nI wv → okSl (I 230) (nI q) y z → (if y = nI 2 then (if isRw S y z then 2 else 3) else y.toNatClampNeg) = wv → (if isRw S y z then S z.toNatClampNeg else z) = c → (if isRw S y z then nI (Z z.toNatClampNeg) else nI 0) = e → (¬ wv = 3 → b = c) → (wv = 2 → g = e ∧ ∃ t, t ≤ 4 ∧ c = nI t) → am_cal (d + 3) 252 [.ref 229, .int (nI q), .int y, .int z] (mS I J) = some (some (.int (nI 1)), mS (wI (wI (wI I 245 q a) 246 q b) 247 q g) J) → ∃ I', FLM I' I ∧ SlM I' (tr_W (I 230) S W (nI q) y z) (tr_H (I 230) S H (nI q) y z) (tr_Y (I 230) S Z Y (nI q) y z) ∧ am_cal (d + 3) 252 [.ref 229, .int (nI q), .int y, .int z] (mS I J) = some (some (.int (v_shelf (I 230) (nI q) y z)), mS I' J) := fun a b c e g wv h3 ha ho hwv hc he hh hh2 h => by
      unfold tr_W tr_H tr_Y v_shelf
      rw [if_pos ho, if_pos ho, if_pos ho, if_pos ho, hwv, hc, he, qc]
      refine ⟨_, fun c h1 h2 h3 => by rw [wI_F1 c h3, wI_F1 c h2, wI_F1 c h1], fun p hp => ?_, h⟩
      by_cases e : p = q
      · subst e
        rw [upA_eq, upA_eq, upA_eq, wI_eq, wI_ne (show (246 : Nat) ≠ 247 by decide), wI_eq, wI_ne (show (245 : Nat) ≠ 247 by decide), wI_ne (show (245 : Nat) ≠ 246 by decide), wI_eq]
        exact ⟨h3, ha, hh, hh2⟩
      · have f : ∀ r, wI (wI (wI I 245 q a) 246 q b) 247 q g r p = I r p := fun r => by rw [wI_nk e, wI_nk e, wI_nk e]
        rw [upA_ne e, upA_ne e, upA_ne e, f, f, f]
        exact hL p hp
    by_cases hy : ¬ y < nI 0 ∧ ¬ nI 3 < y
    · rw [if_pos hy, if_neg (by decide)] at e0
      have hy4 : y = nI 0 ∨ y = nI 1 ∨ y = nI 2 ∨ y = nI 3 := by
        have h0 : ¬ y < 0 := by rw [n_i0]; exact hy.1
        obtain ⟨j, hj, rfl⟩ := nI_of h0
        have h3 := hy.2
        rw [n_lt (by decide) hj] at h3
        rcases (show j = 0 ∨ j = 1 ∨ j = 2 ∨ j = 3 by omega) with rfl | rfl | rfl | rfl
        · exact Or.inl rfl
        · exact Or.inr (Or.inl rfl)
        · exact Or.inr (Or.inr (Or.inl rfl))
        · exact Or.inr (Or.inr (Or.inr rfl))
      rcases hy4 with rfl | rfl | rfl | rfl
      · have nr : ¬ isRw S (nI 0) z := fun h => absurd h.1 (by decide)
        rw [if_pos nI_0, m153 hW, bI_s] at e0
        by_cases hz : isP (I 230) z
        · rw [if_pos hz, if_neg (by decide), if_neg (by decide), e_252_22, if_neg (by decide), e_252_30, if_neg (by decide), m252e hq (by decide)] at e0
          exact gen (nI 0) z z (nI 0) (nI 0) 0 (by decide) rfl ⟨hx, Or.inl ⟨rfl, hz⟩⟩ (by rw [if_neg (by decide)]; exact nc_0) (if_neg nr) (if_neg nr) (fun _ => rfl) (fun h => absurd h (by decide)) e0
        · rw [if_neg hz, if_pos nI_0] at e0
          exact nope (fun h => by rcases h.2 with h | h | h | h; exact hz h.2; exact absurd h.1 (by decide); exact absurd h.1 (by decide); exact absurd h (by decide)) e0
      · have nr : ¬ isRw S (nI 1) z := fun h => absurd h.1 (by decide)
        rw [if_neg (by decide), if_pos rfl, m203 hW, bI_s] at e0
        by_cases hz : isCl (I 230) z
        · rw [if_pos hz, if_neg (by decide), e_252_22, if_neg (by decide), e_252_30, if_neg (by decide), m252e hq (by decide)] at e0
          exact gen (nI 1) z z (nI 0) (nI 0) 1 (by decide) rfl ⟨hx, Or.inr (Or.inl ⟨rfl, hz⟩)⟩ (by rw [if_neg (by decide)]; exact nc_1) (if_neg nr) (if_neg nr) (fun _ => rfl) (fun h => absurd h (by decide)) e0
        · rw [if_neg hz, if_pos nI_0] at e0
          exact nope (fun h => by rcases h.2 with h | h | h | h; exact absurd h.1 (by decide); exact hz h.2; exact absurd h.1 (by decide); exact absurd h (by decide)) e0
      · rw [if_neg (by decide), if_neg (by decide), e_252_22, if_pos rfl, m245, bI_s] at e0
        by_cases hz : isSh z
        · rw [if_pos hz, if_neg (by decide), e_252_30, if_pos rfl] at e0
          obtain ⟨r, hr, rfl⟩ := isSh_n hz
          have i0c : (nI (r)).toNatClampNeg = r := nI_clamp (by omega)
          have i0z : (nI (r) < 0) = False := n_ge0 (by omega)
          have i0l : (4 ≤ r) = False := n_lef (by omega)
          obtain ⟨c1, c2⟩ := hC r hr
          have wn := wfS_neg hw hr
          have ho : okSl (I 230) (nI q) (nI 2) (nI r) := ⟨hx, Or.inr (Or.inr (Or.inl ⟨rfl, hz⟩))⟩
          by_cases h1 : S r = Int32.ofInt (-1)
          · have nr : ¬ isRw S (nI 2) (nI r) := fun h => h.2 (by rw [i0c]; exact h1)
            simp only [lc_229, lr_229_25, lc_242, ll_242, i0c, i0z, i0l, c1, wn, eq_true h1, lc_229, lr_229_0, lc_230, ll_230, bq_s, mS_c, mS_l, mS_r, mS_i, mS_j, mS_pi, mS_pj, lt_st, bq_s, bV_s, bI_s, bJ_s, bA_s, nz_0, nc_0, nz_1, nc_1, nz_2, nc_2, nz_3, nc_3, nz_4, nc_4, nz_5, nc_5, nz_6, nc_6, nz_7, nc_7, nz_8, nc_8, nz_9, nc_9, nz_10, nc_10, nz_11, nc_11, nz_12, nc_12, if_true, if_false, eq_self, true_and, and_true, false_or, or_false, true_or, or_true, false_and, and_false, not_true, not_false_eq_true, ne_eq, ite_self, ite_not, ↓reduceIte] at e0
            rw [e_252_41] at e0
            simp only [lc_229, lr_229_28, z_t, lc_229, lr_229_0, lc_230, ll_230, bq_s, mS_c, mS_l, mS_r, mS_i, mS_j, mS_pi, mS_pj, lt_st, bq_s, bV_s, bI_s, bJ_s, bA_s, nz_0, nc_0, nz_1, nc_1, nz_2, nc_2, nz_3, nc_3, nz_4, nc_4, nz_5, nc_5, nz_6, nc_6, nz_7, nc_7, nz_8, nc_8, nz_9, nc_9, nz_10, nc_10, nz_11, nc_11, nz_12, nc_12, if_true, if_false, eq_self, true_and, and_true, false_or, or_false, true_or, or_true, false_and, and_false, not_true, not_false_eq_true, ne_eq, ite_self, ite_not, ↓reduceIte] at e0
            rw [e_252_53] at e0
            simp only [lc_245, ll_245, lc_229, lr_229_29, j0c, j0z, j0l, z_t, lc_229, lr_229_0, lc_230, ll_230, bq_s, mS_c, mS_l, mS_r, mS_i, mS_j, mS_pi, mS_pj, lt_st, bq_s, bV_s, bI_s, bJ_s, bA_s, nz_0, nc_0, nz_1, nc_1, nz_2, nc_2, nz_3, nc_3, nz_4, nc_4, nz_5, nc_5, nz_6, nc_6, nz_7, nc_7, nz_8, nc_8, nz_9, nc_9, nz_10, nc_10, nz_11, nc_11, nz_12, nc_12, if_true, if_false, eq_self, true_and, and_true, false_or, or_false, true_or, or_true, false_and, and_false, not_true, not_false_eq_true, ne_eq, ite_self, ite_not, ↓reduceIte] at e0
            rw [e_252_65] at e0
            simp only [lc_246, ll_246, lc_229, lr_229_30, lc_247, ll_247, j0c, j0z, j0l, z_t, lc_229, lr_229_0, lc_230, ll_230, bq_s, mS_c, mS_l, mS_r, mS_i, mS_j, mS_pi, mS_pj, lt_st, bq_s, bV_s, bI_s, bJ_s, bA_s, nz_0, nc_0, nz_1, nc_1, nz_2, nc_2, nz_3, nc_3, nz_4, nc_4, nz_5, nc_5, nz_6, nc_6, nz_7, nc_7, nz_8, nc_8, nz_9, nc_9, nz_10, nc_10, nz_11, nc_11, nz_12, nc_12, if_true, if_false, eq_self, true_and, and_true, false_or, or_false, true_or, or_true, false_and, and_false, not_true, not_false_eq_true, ne_eq, ite_self, ite_not, ↓reduceIte] at e0
            exact gen (nI 3) (nI r) (nI r) (nI 0) (nI 0) 3 (by decide) rfl ho (by rw [if_pos rfl, if_neg nr]) (if_neg nr) (if_neg nr) (fun h => absurd rfl h) (fun h => absurd h (by decide)) e0
          · obtain ⟨c3, c4⟩ := c2 h1
            have nr : isRw S (nI 2) (nI r) := ⟨rfl, by rw [i0c]; exact h1⟩
            have g1 : ∀ (I1 : mI) (q' : Nat) (v : Int32), wI I1 245 q' v 242 r = I1 242 r := fun I1 q' v => wI_ne (by decide)
            have g2 : ∀ (I1 : mI) (q' : Nat) (v : Int32), wI I1 245 q' v 243 r = I1 243 r := fun I1 q' v => wI_ne (by decide)
            have g3 : ∀ (I1 : mI) (q' : Nat) (v : Int32), wI I1 246 q' v 243 r = I1 243 r := fun I1 q' v => wI_ne (by decide)
            simp only [lc_229, lr_229_25, lc_242, ll_242, i0c, i0z, i0l, c1, wn, eq_false h1, lc_229, lr_229_0, lc_230, ll_230, bq_s, mS_c, mS_l, mS_r, mS_i, mS_j, mS_pi, mS_pj, lt_st, bq_s, bV_s, bI_s, bJ_s, bA_s, nz_0, nc_0, nz_1, nc_1, nz_2, nc_2, nz_3, nc_3, nz_4, nc_4, nz_5, nc_5, nz_6, nc_6, nz_7, nc_7, nz_8, nc_8, nz_9, nc_9, nz_10, nc_10, nz_11, nc_11, nz_12, nc_12, if_true, if_false, eq_self, true_and, and_true, false_or, or_false, true_or, or_true, false_and, and_false, not_true, not_false_eq_true, ne_eq, ite_self, ite_not, ↓reduceIte] at e0
            rw [e_252_41] at e0
            simp only [lc_229, lr_229_28, z_f, lc_229, lr_229_0, lc_230, ll_230, bq_s, mS_c, mS_l, mS_r, mS_i, mS_j, mS_pi, mS_pj, lt_st, bq_s, bV_s, bI_s, bJ_s, bA_s, nz_0, nc_0, nz_1, nc_1, nz_2, nc_2, nz_3, nc_3, nz_4, nc_4, nz_5, nc_5, nz_6, nc_6, nz_7, nc_7, nz_8, nc_8, nz_9, nc_9, nz_10, nc_10, nz_11, nc_11, nz_12, nc_12, if_true, if_false, eq_self, true_and, and_true, false_or, or_false, true_or, or_true, false_and, and_false, not_true, not_false_eq_true, ne_eq, ite_self, ite_not, ↓reduceIte] at e0
            rw [e_252_53] at e0
            simp only [lc_245, ll_245, lc_229, lr_229_29, lr_229_25, lc_242, ll_242, j0c, j0z, j0l, i0c, i0z, i0l, g1, c1, z_f, lc_229, lr_229_0, lc_230, ll_230, bq_s, mS_c, mS_l, mS_r, mS_i, mS_j, mS_pi, mS_pj, lt_st, bq_s, bV_s, bI_s, bJ_s, bA_s, nz_0, nc_0, nz_1, nc_1, nz_2, nc_2, nz_3, nc_3, nz_4, nc_4, nz_5, nc_5, nz_6, nc_6, nz_7, nc_7, nz_8, nc_8, nz_9, nc_9, nz_10, nc_10, nz_11, nc_11, nz_12, nc_12, if_true, if_false, eq_self, true_and, and_true, false_or, or_false, true_or, or_true, false_and, and_false, not_true, not_false_eq_true, ne_eq, ite_self, ite_not, ↓reduceIte] at e0
            rw [e_252_65] at e0
            simp only [lc_246, ll_246, lc_229, lr_229_30, lr_229_26, lc_243, ll_243, lc_247, ll_247, j0c, j0z, j0l, i0c, i0z, i0l, g2, g3, c3, z_f, lc_229, lr_229_0, lc_230, ll_230, bq_s, mS_c, mS_l, mS_r, mS_i, mS_j, mS_pi, mS_pj, lt_st, bq_s, bV_s, bI_s, bJ_s, bA_s, nz_0, nc_0, nz_1, nc_1, nz_2, nc_2, nz_3, nc_3, nz_4, nc_4, nz_5, nc_5, nz_6, nc_6, nz_7, nc_7, nz_8, nc_8, nz_9, nc_9, nz_10, nc_10, nz_11, nc_11, nz_12, nc_12, if_true, if_false, eq_self, true_and, and_true, false_or, or_false, true_or, or_true, false_and, and_false, not_true, not_false_eq_true, ne_eq, ite_self, ite_not, ↓reduceIte] at e0
            obtain ⟨t, ht, hS⟩ : ∃ t, t ≤ 4 ∧ S r = nI t := by
              rcases (hw r hr).1 with h | h
              · exact absurd h h1
              · exact h
            exact gen (nI 2) (S r) (S r) (nI (Z r)) (nI (Z r)) 2 (by decide) rfl ho (by rw [if_pos rfl, if_pos nr]) (by rw [if_pos nr, i0c]) (by rw [if_pos nr, i0c]) (fun _ => rfl) (fun _ => ⟨rfl, t, ht, hS⟩) e0
        · rw [if_neg hz, if_pos nI_0] at e0
          exact nope (fun h => by rcases h.2 with h | h | h | h; exact absurd h.1 (by decide); exact absurd h.1 (by decide); exact hz h.2; exact absurd h (by decide)) e0
      · have nr : ¬ isRw S (nI 3) z := fun h => absurd h.1 (by decide)
        rw [if_neg (by decide), if_neg (by decide), e_252_22, if_neg (by decide), e_252_30, if_neg (by decide), m252e hq (by decide)] at e0
        exact gen (nI 3) z z (nI 0) (nI 0) 3 (by decide) rfl ⟨hx, Or.inr (Or.inr (Or.inr rfl))⟩ (by rw [if_neg (by decide)]; exact nc_3) (if_neg nr) (if_neg nr) (fun _ => rfl) (fun h => absurd h (by decide)) e0
    · rw [if_neg hy, if_pos nI_0] at e0
      refine nope (fun h => hy ?_) e0
      rcases h.2 with h | h | h | h
      · rw [h.1]; decide
      · rw [h.1]; decide
      · rw [h.1]; decide
      · rw [h]; decide
  · rw [if_neg hx, if_pos nI_0] at e0
    exact nope (fun h => hx h.1) e0
end I6s
