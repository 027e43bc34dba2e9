/-! ===== what a shelf holds; taken ===== -/
def hd (s : Rw) (W : Nat → Nat) (H : Nat → Int32) (q : Nat) : Nat := if W q = 0 then (if isP s (H q) then 0 else 3) else if W q = 1 then (if isCl s (H q) then 1 else 3) else W q
def kd (s : Rw) (W : Nat → Nat) (H : Nat → Int32) (q : Nat) : Int32 := if W q = 0 then pF s (H q).toNatClampNeg 0 else nI 7
abbrev und (k a : Int32) : Prop := k = a ∨ (a = nI 0 ∧ ¬ k = nI 7) ∨ (a = nI 2 ∧ (k = nI 3 ∨ k = nI 5))
abbrev okTk (x y : Int32) : Prop := isSh x ∧ ¬ y < 0 ∧ ¬ (nI 7 < y ∧ y < nI 10) ∧ ¬ nI 14 < y
def tkV (s : Rw) (W : Nat → Nat) (H Y : Nat → Int32) (q : Nat) (y : Int32) : Int32 := if hd s W H q = 3 then Int32.ofInt (-11) else if hd s W H q = 2 then (if y = nI 10 + H q then Y q else Int32.ofInt (-13)) else if y < nI 10 ∧ und (kd s W H q) y then H q else Int32.ofInt (-13)
def v_taken (s : Rw) (W : Nat → Nat) (H Y : Nat → Int32) (x y : Int32) : Int32 := if okTk x y then tkV s W H Y x.toNatClampNeg y else Int32.ofInt (-1)
section I7s
variable {I I' : mI} {J : mJ} {s : Rw} {d k n q p i c m : Nat} {x y z u v w : Int32} {S : Nat → Int32} {Z : Nat → Nat} {T : Nat → Nat → Int32} {W : Nat → Nat} {H Y : Nat → Int32}
theorem kd_r (hW : WF s) (hp : p < nP s) : ∃ j, 1 ≤ j ∧ j ≤ 6 ∧ pF s p 0 = nI j := by
  have h := (hW.per hp)
  have h1 : pF s p 1 = nI 1 ∨ pF s p 1 = nI 2 ∨ pF s p 1 = nI 3 ∨ pF s p 1 = nI 5 ∨ pF s p 1 = nI 4 := by
    rcases h.1 with h | h | h
    · exact Or.inl h.1
    · rcases h.1 with h | h | h
      · exact Or.inr (Or.inl h)
      · exact Or.inr (Or.inr (Or.inl h))
      · exact Or.inr (Or.inr (Or.inr (Or.inl h)))
    · exact Or.inr (Or.inr (Or.inr (Or.inr h.1)))
  rcases h.2.1 with h2 | h2 | h2 | h2
  · exact ⟨6, by omega, by omega, h2⟩
  · rcases h1 with e | e | e | e | e
    · exact ⟨1, by omega, by omega, h2.1.trans e⟩
    · exact ⟨2, by omega, by omega, h2.1.trans e⟩
    · exact ⟨3, by omega, by omega, h2.1.trans e⟩
    · exact absurd e h2.2
    · exact ⟨4, by omega, by omega, h2.1.trans e⟩
  · exact ⟨5, by omega, by omega, h2.2⟩
  · exact ⟨2, by omega, by omega, h2.2⟩
theorem kd_rng (hW : WF s) (h : hd s W H q < 2) : ∃ j, 1 ≤ j ∧ j ≤ 7 ∧ kd s W H q = nI j := by
  unfold kd
  by_cases h0 : W q = 0
  · rw [if_pos h0]
    unfold hd at h
    rw [if_pos h0] at h
    by_cases hp : isP s (H q)
    · obtain ⟨p, hp', e⟩ := isP_n hW hp
      have := hW.nP.1
      rw [e, nI_clamp (by omega)]
      obtain ⟨j, a, b, c⟩ := kd_r hW hp'
      exact ⟨j, a, by omega, c⟩
    · rw [if_neg hp] at h; omega
  · rw [if_neg h0]; exact ⟨7, by omega, by omega, rfl⟩
theorem n_10t {t : Nat} (ht : t ≤ 4) : (nI (10 + t) = 0) = False ∧ (nI (10 + t) = nI 1) = False ∧ ¬ nI (10 + t) = Int32.ofInt (-1) := by
  rcases (show t = 0 ∨ t = 1 ∨ t = 2 ∨ t = 3 ∨ t = 4 by omega) with rfl | rfl | rfl | rfl | rfl
  all_goals exact ⟨eq_false (by decide), eq_false (by decide), by decide⟩
theorem k141 (hL : SlC I W H Y) (hR : Rep I 1 s) (hq : q < 4) : ∃ v, ((hd s W H q = 0 ∧ v = nI 0) ∨ (hd s W H q = 1 ∧ v = nI 1) ∨ (hd s W H q = 2 ∧ ∃ t, t ≤ 4 ∧ H q = nI t ∧ v = nI (10 + t)) ∨ (hd s W H q = 3 ∧ v = Int32.ofInt (-1))) ∧ am_cal (d + 2) 141 [.ref 0, .int (nI q)] (mS I J) = some (some (.int v), mS I J) := by
  have i0c : (nI (q)).toNatClampNeg = q := nI_clamp (by omega)
  have i0z : (nI (q) < 0) = False := n_ge0 (by omega)
  have i0l : (4 ≤ q) = False := n_lef (by omega)
  have e0 : am_cal (d + 2) 141 [.ref 0, .int (nI q)] (mS I J) = _ := c_141 lc_0
  unfold hd
  rcases hL q hq with ⟨h1, h2, h3⟩ | ⟨h1, h2, h3⟩ | ⟨h1, ⟨t, ht, h2, h3⟩, h4⟩ | ⟨h1, h2⟩
  · rw [if_pos h1]
    simp only [lc_0, lr_0_0, lr_0_14, lr_0_15, lc_227, ll_227, lc_228, ll_228, i0c, i0z, i0l, h2, h3, z_t, k65 W1 hR, nn_0_1, nn_0_2, nn_0_3, nn_0_4, nn_0_5, nn_0_6, nn_0_7, nn_0_8, nn_1_0, nn_1_2, nn_1_3, nn_1_4, nn_1_5, nn_1_6, nn_1_7, nn_1_8, nn_2_0, nn_2_1, nn_2_3, nn_2_4, nn_2_5, nn_2_6, nn_2_7, nn_2_8, nn_3_0, nn_3_1, nn_3_2, nn_3_4, nn_3_5, nn_3_6, nn_3_7, nn_3_8, nn_4_0, nn_4_1, nn_4_2, nn_4_3, nn_4_5, nn_4_6, nn_4_7, nn_4_8, nn_5_0, nn_5_1, nn_5_2, nn_5_3, nn_5_4, nn_5_6, nn_5_7, nn_5_8, nn_6_0, nn_6_1, nn_6_2, nn_6_3, nn_6_4, nn_6_5, nn_6_7, nn_6_8, nn_7_0, nn_7_1, nn_7_2, nn_7_3, nn_7_4, nn_7_5, nn_7_6, nn_7_8, nn_8_0, nn_8_1, nn_8_2, nn_8_3, nn_8_4, nn_8_5, nn_8_6, nn_8_7, nq_0, nq_1, nq_2, nq_3, nq_4, nq_5, nq_6, nq_7, nq_8, bq_s, mS_c, mS_l, mS_r, mS_i, mS_j, mS_pi, mS_pj, lt_st, bq_s, bV_s, bI_s, bJ_s, bA_s, nz_0, nc_0, nz_1, nc_1, nz_2, nc_2, nz_3, nc_3, nz_4, nc_4, nz_5, nc_5, nz_6, nc_6, nz_7, nc_7, nz_8, nc_8, nz_9, nc_9, nz_10, nc_10, nz_11, nc_11, nz_12, nc_12, if_true, if_false, eq_self, true_and, and_true, false_or, or_false, true_or, or_true, false_and, and_false, not_true, not_false_eq_true, ne_eq, ite_self, ite_not, ↓reduceIte, n_101, n_107, n_11] at e0
    by_cases hp : isP s (H q)
    · simp only [if_pos hp, z_f, if_false] at e0
      rw [if_pos hp]
      exact ⟨nI 0, Or.inl ⟨rfl, rfl⟩, e0⟩
    · simp only [if_neg hp, z_t, if_true] at e0
      rw [if_neg hp]
      exact ⟨_, Or.inr (Or.inr (Or.inr ⟨rfl, rfl⟩)), e0⟩
  · rw [if_neg (by omega), if_pos h1]
    simp only [lc_0, lr_0_0, lr_0_14, lr_0_15, lc_227, ll_227, lc_228, ll_228, i0c, i0z, i0l, h2, h3, z_f, k66 W1 hR, nn_0_1, nn_0_2, nn_0_3, nn_0_4, nn_0_5, nn_0_6, nn_0_7, nn_0_8, nn_1_0, nn_1_2, nn_1_3, nn_1_4, nn_1_5, nn_1_6, nn_1_7, nn_1_8, nn_2_0, nn_2_1, nn_2_3, nn_2_4, nn_2_5, nn_2_6, nn_2_7, nn_2_8, nn_3_0, nn_3_1, nn_3_2, nn_3_4, nn_3_5, nn_3_6, nn_3_7, nn_3_8, nn_4_0, nn_4_1, nn_4_2, nn_4_3, nn_4_5, nn_4_6, nn_4_7, nn_4_8, nn_5_0, nn_5_1, nn_5_2, nn_5_3, nn_5_4, nn_5_6, nn_5_7, nn_5_8, nn_6_0, nn_6_1, nn_6_2, nn_6_3, nn_6_4, nn_6_5, nn_6_7, nn_6_8, nn_7_0, nn_7_1, nn_7_2, nn_7_3, nn_7_4, nn_7_5, nn_7_6, nn_7_8, nn_8_0, nn_8_1, nn_8_2, nn_8_3, nn_8_4, nn_8_5, nn_8_6, nn_8_7, nq_0, nq_1, nq_2, nq_3, nq_4, nq_5, nq_6, nq_7, nq_8, bq_s, mS_c, mS_l, mS_r, mS_i, mS_j, mS_pi, mS_pj, lt_st, bq_s, bV_s, bI_s, bJ_s, bA_s, nz_0, nc_0, nz_1, nc_1, nz_2, nc_2, nz_3, nc_3, nz_4, nc_4, nz_5, nc_5, nz_6, nc_6, nz_7, nc_7, nz_8, nc_8, nz_9, nc_9, nz_10, nc_10, nz_11, nc_11, nz_12, nc_12, if_true, if_false, eq_self, true_and, and_true, false_or, or_false, true_or, or_true, false_and, and_false, not_true, not_false_eq_true, ne_eq, ite_self, ite_not, ↓reduceIte, n_101, n_107, n_11] at e0
    by_cases hp : isCl s (H q)
    · simp only [if_pos hp, z_f, if_false] at e0
      rw [if_pos hp]
      exact ⟨nI 1, Or.inr (Or.inl ⟨rfl, rfl⟩), e0⟩
    · simp only [if_neg hp, z_t, if_true] at e0
      rw [if_neg hp]
      exact ⟨_, Or.inr (Or.inr (Or.inr ⟨rfl, rfl⟩)), e0⟩
  · rw [if_neg (by omega), if_neg (by omega)]
    obtain ⟨t0, t1, t2⟩ := n_10t ht
    simp only [lc_0, lr_0_14, lc_227, ll_227, i0c, i0z, i0l, h3, t0, t1, bq_s, mS_c, mS_l, mS_r, mS_i, mS_j, mS_pi, mS_pj, lt_st, bq_s, bV_s, bI_s, bJ_s, bA_s, nz_0, nc_0, nz_1, nc_1, nz_2, nc_2, nz_3, nc_3, nz_4, nc_4, nz_5, nc_5, nz_6, nc_6, nz_7, nc_7, nz_8, nc_8, nz_9, nc_9, nz_10, nc_10, nz_11, nc_11, nz_12, nc_12, if_true, if_false, eq_self, true_and, and_true, false_or, or_false, true_or, or_true, false_and, and_false, not_true, not_false_eq_true, ne_eq, ite_self, ite_not, ↓reduceIte, n_101, n_107, n_11] at e0
    exact ⟨_, Or.inr (Or.inr (Or.inl ⟨h1, t, ht, h2, rfl⟩)), e0⟩
  · rw [if_neg (by omega), if_neg (by omega)]
    have t0 : (Int32.ofInt (-1) = 0) = False := eq_false (by decide)
    have t1 : (Int32.ofInt (-1) = nI 1) = False := eq_false (by decide)
    simp only [lc_0, lr_0_14, lc_227, ll_227, i0c, i0z, i0l, h2, t0, t1, bq_s, mS_c, mS_l, mS_r, mS_i, mS_j, mS_pi, mS_pj, lt_st, bq_s, bV_s, bI_s, bJ_s, bA_s, nz_0, nc_0, nz_1, nc_1, nz_2, nc_2, nz_3, nc_3, nz_4, nc_4, nz_5, nc_5, nz_6, nc_6, nz_7, nc_7, nz_8, nc_8, nz_9, nc_9, nz_10, nc_10, nz_11, nc_11, nz_12, nc_12, if_true, if_false, eq_self, true_and, and_true, false_or, or_false, true_or, or_true, false_and, and_false, not_true, not_false_eq_true, ne_eq, ite_self, ite_not, ↓reduceIte, n_101, n_107, n_11] at e0
    exact ⟨_, Or.inr (Or.inr (Or.inr ⟨h1, rfl⟩)), e0⟩
theorem k142 (hL : SlC I W H Y) (hR : Rep I 1 s) (hW : WF s) (hq : q < 4) (hh : hd s W H q < 2) : am_cal (d + 1) 142 [.ref 0, .int (nI q)] (mS I J) = some (some (.int (kd s W H q)), mS I J) := by
  have i0c : (nI (q)).toNatClampNeg = q := nI_clamp (by omega)
  have i0z : (nI (q) < 0) = False := n_ge0 (by omega)
  have i0l : (4 ≤ q) = False := n_lef (by omega)
  have e0 : am_cal (d + 1) 142 [.ref 0, .int (nI q)] (mS I J) = _ := c_142 lc_0
  have h12 := hW.nP.1
  unfold kd
  unfold hd at hh
  rcases hL q hq with ⟨h1, h2, h3⟩ | ⟨h1, h2, h3⟩ | ⟨h1, ⟨t, ht, h2, h3⟩, h4⟩ | ⟨h1, h2⟩
  · rw [if_pos h1] at hh
    rw [if_pos h1]
    by_cases hp : isP s (H q)
    · obtain ⟨p, hp', e⟩ := isP_n hW hp
      rw [e] at h3
      have i1c : (nI (p)).toNatClampNeg = p := nI_clamp (by omega)
      have i1z : (nI (p) < 0) = False := n_ge0 (by omega)
      have i1l : (12 ≤ p) = False := n_lef (by omega)
      simp only [lc_0, lr_0_0, lr_0_14, lr_0_15, lc_227, ll_227, lc_228, ll_228, i0c, i0z, i0l, i1c, i1z, i1l, h2, h3, z_t, w_C W1, w_R0 W1, w_C1 W1, w_L1 W1, w_rp W1 (show p < 12 by omega), w_cp W1 (show p < 12 by omega), hR.pF hp' (show 0 < 8 by decide), n_101, bq_s, mS_c, mS_l, mS_r, mS_i, mS_j, mS_pi, mS_pj, lt_st, bq_s, bV_s, bI_s, bJ_s, bA_s, nz_0, nc_0, nz_1, nc_1, nz_2, nc_2, nz_3, nc_3, nz_4, nc_4, nz_5, nc_5, nz_6, nc_6, nz_7, nc_7, nz_8, nc_8, nz_9, nc_9, nz_10, nc_10, nz_11, nc_11, nz_12, nc_12, if_true, if_false, eq_self, true_and, and_true, false_or, or_false, true_or, or_true, false_and, and_false, not_true, not_false_eq_true, ne_eq, ite_self, ite_not, ↓reduceIte, n_101, n_107, n_11] at e0
      rw [e, i1c]
      exact e0
    · rw [if_neg hp] at hh; omega
  · rw [if_neg (by omega)]
    simp only [lc_0, lr_0_14, lc_227, ll_227, i0c, i0z, i0l, h2, z_f, bq_s, mS_c, mS_l, mS_r, mS_i, mS_j, mS_pi, mS_pj, lt_st, bq_s, bV_s, bI_s, bJ_s, bA_s, nz_0, nc_0, nz_1, nc_1, nz_2, nc_2, nz_3, nc_3, nz_4, nc_4, nz_5, nc_5, nz_6, nc_6, nz_7, nc_7, nz_8, nc_8, nz_9, nc_9, nz_10, nc_10, nz_11, nc_11, nz_12, nc_12, if_true, if_false, eq_self, true_and, and_true, false_or, or_false, true_or, or_true, false_and, and_false, not_true, not_false_eq_true, ne_eq, ite_self, ite_not, ↓reduceIte, n_101, n_107, n_11] at e0
    exact e0
  · rw [if_neg (by omega), if_neg (by omega)] at hh; omega
  · rw [if_neg (by omega), if_neg (by omega)] at hh; omega
theorem k143 : am_cal (d + 1) 143 [.int x, .int y] (mS I J) = some (some (.int (if und x y then nI 1 else nI 0)), mS I J) := by
  rw [c_143]
  simp only [o_if]
  congr 4
  by_cases h : x = y
  · rw [if_pos h, if_pos (Or.inl h)]
  · rw [if_neg h]
    by_cases h0 : y = nI 0
    · rw [if_pos (by rw [n_i0]; exact h0)]
      by_cases h7 : x = nI 7
      · rw [if_pos h7, if_neg]
        rintro (e | ⟨_, e⟩ | ⟨e, _⟩)
        · exact h e
        · exact e h7
        · rw [h0] at e; exact absurd e (by decide)
      · rw [if_neg h7, if_pos (Or.inr (Or.inl ⟨h0, h7⟩))]
    · rw [if_neg (by rw [n_i0]; exact h0)]
      by_cases h2 : y = nI 2
      · rw [if_pos h2]
        by_cases h3 : x = nI 3
        · rw [if_pos h3, if_pos (Or.inr (Or.inr ⟨h2, Or.inl h3⟩))]
        · rw [if_neg h3]
          by_cases h5 : x = nI 5
          · rw [if_pos h5, if_pos (Or.inr (Or.inr ⟨h2, Or.inr h5⟩))]
          · rw [if_neg h5, if_neg]
            rintro (e | ⟨e, _⟩ | ⟨_, e | e⟩)
            · exact h e
            · exact h0 e
            · exact h3 e
            · exact h5 e
      · rw [if_neg h2, if_neg]
        rintro (e | ⟨e, _⟩ | ⟨e, _⟩)
        · exact h e
        · exact h0 e
        · exact h2 e
theorem m254 (hx : ∃ j, 1 ≤ j ∧ j ≤ 7 ∧ x = nI j) : am_cal (d + 1) 254 [.int x, .int y] (mS I J) = some (some (.int (if und x y then nI 1 else nI 0)), mS I J) := by
  obtain ⟨j, j1, j7, rfl⟩ := hx
  have e7 : (nI j < nI 7) = (¬ nI j = nI 7) := by
    rw [n_lt (by omega) (by decide), n_eq (by omega) (by decide)]
    exact propext ⟨fun h => by omega, fun h => by omega⟩
  rw [← k143 (d := d) (I := I) (J := J), c_254, c_143]
  simp only [e7]
  by_cases h : nI j = y
  · rw [if_pos h, if_pos h]
  · rw [if_neg h, if_neg h]
    by_cases h0 : y = 0
    · rw [if_pos h0, if_pos h0]
      by_cases h7 : nI j = nI 7
      · have h2 : ¬ y = nI 2 := by rw [h0]; decide
        rw [if_neg (fun hh => hh h7), if_neg h2, if_pos h7]
      · rw [if_pos h7, if_neg h7]
    · rw [if_neg h0, if_neg h0]
theorem k133e (hL : SlC I W H Y) (hR : Rep I 1 s) (hW : WF s) (hq : q < 4) (h14 : ¬ nI 14 < y) : am_X (am_cal (d + 2)) 133 11 [.ref 0, .int (nI q), .int y, .null, .null] [] (mS I J) = some (some (.int (tkV s W H Y q y)), mS I J) := by
  have i0c : (nI (q)).toNatClampNeg = q := nI_clamp (by omega)
  have i0z : (nI (q) < 0) = False := n_ge0 (by omega)
  have i0l : (4 ≤ q) = False := n_lef (by omega)
  have n0 : (nI 0 = Int32.ofInt (-1)) = False := eq_false (by decide)
  have n1 : (nI 1 = Int32.ofInt (-1)) = False := eq_false (by decide)
  have l0 : (nI 0 < nI 10) = True := eq_true (by decide)
  have l1 : (nI 1 < nI 10) = True := eq_true (by decide)
  have fin : ∀ (t : Int32), t = nI 0 ∨ t = nI 1 → am_X (am_cal (d + 2)) 133 47 [.ref 0, .int (nI q), .null, .null, .null] [.int t] (mS I J) = some (some (.int (if t = nI 1 then I 228 q else Int32.ofInt (-13))), mS I J) := fun t ht => by
    rw [e_133_47]
    rcases ht with rfl | rfl
    · simp only [z_t, nn_0_1, bq_s, mS_c, mS_l, mS_r, mS_i, mS_j, mS_pi, mS_pj, lt_st, bq_s, bV_s, bI_s, bJ_s, bA_s, nz_0, nc_0, nz_1, nc_1, nz_2, nc_2, nz_3, nc_3, nz_4, nc_4, nz_5, nc_5, nz_6, nc_6, nz_7, nc_7, nz_8, nc_8, nz_9, nc_9, nz_10, nc_10, nz_11, nc_11, nz_12, nc_12, if_true, if_false, eq_self, true_and, and_true, false_or, or_false, true_or, or_true, false_and, and_false, not_true, not_false_eq_true, ne_eq, ite_self, ite_not, ↓reduceIte, n_101, n_107, n_11]
    · simp only [z_f, lc_0, lr_0_15, lc_228, ll_228, i0c, i0z, i0l, bq_s, mS_c, mS_l, mS_r, mS_i, mS_j, mS_pi, mS_pj, lt_st, bq_s, bV_s, bI_s, bJ_s, bA_s, nz_0, nc_0, nz_1, nc_1, nz_2, nc_2, nz_3, nc_3, nz_4, nc_4, nz_5, nc_5, nz_6, nc_6, nz_7, nc_7, nz_8, nc_8, nz_9, nc_9, nz_10, nc_10, nz_11, nc_11, nz_12, nc_12, if_true, if_false, eq_self, true_and, and_true, false_or, or_false, true_or, or_true, false_and, and_false, not_true, not_false_eq_true, ne_eq, ite_self, ite_not, ↓reduceIte, n_101, n_107, n_11]
  obtain ⟨v, hv, e1⟩ := k141 (d := d) (J := J) hL hR hq
  have pick : ∀ (hh : hd s W H q < 2), I 228 q = H q := fun hh => by
    unfold hd at hh
    rcases hL q hq with ⟨h1, h2, h3⟩ | ⟨h1, h2, h3⟩ | ⟨h1, _⟩ | ⟨h1, h2⟩
    · exact h3
    · exact h3
    · rw [if_neg (by omega), if_neg (by omega)] at hh; omega
    · rw [if_neg (by omega), if_neg (by omega)] at hh; omega
  have low2 : ∀ (hh : hd s W H q < 2) (hv : v = nI 0 ∨ v = nI 1), am_X (am_cal (d + 2)) 133 11 [.ref 0, .int (nI q), .int y, .null, .null] [] (mS I J) = some (some (.int (tkV s W H Y q y)), mS I J) := fun hh hv => by
    have hb : ¬ v = Int32.ofInt (-1) ∧ v < nI 10 := by rcases hv with rfl | rfl <;> exact ⟨by decide, by decide⟩
    unfold tkV
    rw [if_neg (by omega), if_neg (by omega), e_133_11, if_neg h14, e1, bI_s, if_neg hb.1, if_pos hb.2]
    by_cases hy : y < nI 10
    · rw [if_pos hy, k142 hL hR hW hq hh, bI_s, k143, bI_s]
      by_cases hu : und (kd s W H q) y
      · rw [if_pos hu, if_neg (by decide), fin _ (Or.inr rfl), if_pos rfl, pick hh, if_pos ⟨hy, hu⟩]
      · rw [if_neg hu, if_pos nI_0, fin _ (Or.inl rfl), if_neg (by decide), if_neg (fun h => hu h.2)]
    · rw [if_neg hy, fin _ (Or.inl rfl), if_neg (by decide), if_neg (fun h => hy h.1)]
  rcases hv with ⟨h1, h2⟩ | ⟨h1, h2⟩ | ⟨h1, t, ht, h2, h3⟩ | ⟨h1, h2⟩
  · exact low2 (by omega) (Or.inl h2)
  · exact low2 (by omega) (Or.inr h2)
  · obtain ⟨t0, t1, t2⟩ := n_10t ht
    have p2 : I 228 q = Y q := by
      unfold hd at h1
      rcases hL q hq with ⟨g1, _⟩ | ⟨g1, _⟩ | ⟨g1, _, g4⟩ | ⟨g1, _⟩
      · rw [if_pos g1] at h1; split at h1 <;> omega
      · rw [if_neg (by omega), if_pos g1] at h1; split at h1 <;> omega
      · exact g4
      · rw [if_neg (by omega), if_neg (by omega)] at h1; omega
    have l10 : ¬ nI (10 + t) < nI 10 := by rw [n_lt (by omega) (by decide)]; omega
    unfold tkV
    rw [if_neg (by omega), if_pos h1, e_133_11, if_neg h14, e1, bI_s, h3, if_neg t2, if_neg l10, h2, nI_add]
    by_cases hy : y = nI (10 + t)
    · rw [if_pos hy.symm, fin _ (Or.inr rfl), if_pos rfl, p2, if_pos hy]
    · rw [if_neg (fun h => hy h.symm), fin _ (Or.inl rfl), if_neg (by decide), if_neg hy]
  · unfold tkV
    rw [if_pos h1, e_133_11, if_neg h14, e1, bI_s, h2, if_pos rfl]
theorem k133 (hL : SlC I W H Y) (hR : Rep I 1 s) (hW : WF s) : am_cal (d + 3) 133 [.ref 0, .int x, .int y] (mS I J) = some (some (.int (v_taken s W H Y x y)), mS I J) := by
  have e0 : am_cal (d + 3) 133 [.ref 0, .int x, .int y] (mS I J) = _ := c_133 lc_0
  rw [k146, bI_s] at e0
  unfold v_taken
  by_cases hx : isSh x
  · rw [if_pos hx, if_neg (by decide)] at e0
    by_cases h0 : y < 0
    · rw [if_pos h0, e_133_14] at e0
      rw [if_neg (fun h => h.2.1 h0)]; exact e0
    · rw [if_neg h0] at e0
      by_cases h7 : nI 7 < y ∧ y < nI 10
      · rw [if_pos h7.1, if_pos h7.2, e_133_14] at e0
        rw [if_neg (fun h => h.2.2.1 h7)]; exact e0
      · have e1 : am_cal (d + 3) 133 [.ref 0, .int x, .int y] (mS I J) = am_X (am_cal (d + 2)) 133 11 [.ref 0, .int x, .int y, .null, .null] [] (mS I J) := by
          rw [e0]
          by_cases g : nI 7 < y
          · rw [if_pos g, if_neg (fun h => h7 ⟨g, h⟩)]
          · rw [if_neg g]
        by_cases h14 : nI 14 < y
        · rw [if_neg (fun h => h.2.2.2 h14), e1, e_133_11, if_pos h14, e_133_14]
        · obtain ⟨q, hq, rfl⟩ := isSh_n hx
          rw [if_pos ⟨hx, h0, h7, h14⟩, e1, k133e hL hR hW hq h14, nI_clamp (show q < 2 ^ 31 by omega)]
  · rw [if_neg hx, if_pos nI_0, e_133_14] at e0
    rw [if_neg (fun h => hx h.1)]; exact e0
end I7s
