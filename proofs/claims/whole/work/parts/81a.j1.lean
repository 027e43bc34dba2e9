/-! ===== the tape; feed ===== -/
/-- a byte as the class keeps it -/
def sx (b : Nat) : Int32 := Int8.toInt32 (Int32.toInt8 (nI b))
def TpC (I : mI) (T : Nat → Nat) (n : Nat) : Prop := I 0 17 = nI n ∧ ∀ k, k < n → I 198 k = sx (T k)
def TpM (I : mI) (T : Nat → Nat) (n : Nat) : Prop := I 229 7 = nI n ∧ ∀ k, k < n → I 233 k = nI (T k)
abbrev okT (T : Nat → Nat) (n : Nat) : Prop := n ≤ 200 ∧ ∀ k, k < n → T k < 256
def fdM (y : Int64) (i : Nat) : Int32 := Int64.toInt32 ((y >>> (Int32.toInt64 (nI 8 * nI i) &&& 63)) &&& lN 255)
def fdC (y : Int64) (i : Nat) : Int32 := Int8.toInt32 (Int32.toInt8 (Int8.toInt32 (Int32.toInt8 (Int64.toInt32 (UInt64.toInt64 (Int64.toUInt64 y >>> Int64.toUInt64 (Int32.toInt64 (nI 8 * nI i) &&& 63)))))))
def bN (y : Int64) (i : Nat) : Nat := (fdM y i).toNatClampNeg
def fdT (T : Nat → Nat) (n : Nat) (y : Int64) : Nat → Nat := fun k => if k < n then T k else bN y (k - n)
def v_feed (n : Nat) (x : Int32) : Int32 := if ¬ x < nI 1 ∧ ¬ nI 8 < x then (if nI 200 < nI n + x then Int32.ofInt (-2) else nI n + x) else Int32.ofInt (-1)
abbrev okFd (n : Nat) (x : Int32) : Prop := (¬ x < nI 1 ∧ ¬ nI 8 < x) ∧ ¬ nI 200 < nI n + x
def tr_fT (T : Nat → Nat) (n : Nat) (y : Int64) (x : Int32) : Nat → Nat := if okFd n x then fdT T n y else T
def tr_fn (n : Nat) (x : Int32) : Nat := if okFd n x then n + x.toNatClampNeg else n
section J1s
variable {I I' : mI} {J : mJ} {d k n q p i c m : Nat} {x z u v w : Int32} {y : Int64} {T : Nat → Nat}
theorem sh_8 : ∀ i, i < 8 → ((Int32.toInt64 (nI 8 * nI i) &&& 63).toBitVec.smod 64).toNat = 8 * i ∧ (Int64.toUInt64 (Int32.toInt64 (nI 8 * nI i) &&& 63)).toBitVec % 64 = BitVec.ofNat 64 (8 * i) ∧ (BitVec.ofNat 64 (8 * i)).toNat = 8 * i := by decide +kernel
theorem b255 : ∀ j, j < 64 → (lN 255).toBitVec.getLsbD j = decide (j < 8) := by decide +kernel
theorem fdM_bit {j : Nat} (hi : i < 8) (hj : j < 32) : (fdM y i).toBitVec.getLsbD j = (y.toBitVec.getLsbD (8 * i + j) && decide (j < 8)) := by
  unfold fdM
  rw [Int64.toBitVec_toInt32, BitVec.getLsbD_signExtend, Int64.toBitVec_and, if_pos (by omega), BitVec.getLsbD_and, b255 j (by omega), Int64.toBitVec_shiftRight, BitVec.sshiftRight_eq', (sh_8 i hi).1, BitVec.getLsbD_sshiftRight]
  by_cases h : j < 8
  · rw [if_pos (by omega)]
    simp [show j < 32 from hj, h, show ¬ 64 ≤ j by omega]
  · simp [h]
theorem fdM_n (hi : i < 8) : bN y i < 256 ∧ fdM y i = nI (bN y i) := by
  have h0 : (fdM y i).toBitVec.toNat < 2 ^ 8 := by
    apply Nat.lt_pow_two_of_testBit
    intro j hj
    by_cases h : j < 32
    · have := fdM_bit (y := y) hi h
      rw [BitVec.testBit_toNat, this]
      simp [show ¬ j < 8 by omega]
    · rw [BitVec.testBit_toNat, BitVec.getLsbD_of_ge _ _ (by omega)]
  have h1 : fdM y i = nI (fdM y i).toBitVec.toNat := by
    apply Int32.toBitVec_inj.mp
    show _ = BitVec.ofNat 32 _
    rw [BitVec.ofNat_toNat, BitVec.setWidth_eq]
  have h2 : bN y i = (fdM y i).toBitVec.toNat := by
    have e : (nI (fdM y i).toBitVec.toNat).toNatClampNeg = (fdM y i).toBitVec.toNat := nI_clamp (by omega)
    unfold bN
    rw [← h1] at e
    exact e
  rw [h2]
  exact ⟨by omega, h1⟩
theorem fdC_eq (hi : i < 8) : fdC y i = sx (bN y i) := by
  unfold fdC sx
  rw [← (fdM_n (y := y) hi).2, Int8.toInt8_toInt32]
  congr 1
  apply Int8.toBitVec_inj.mp
  apply BitVec.eq_of_getLsbD_eq
  intro j hj
  rw [Int32.toBitVec_toInt8, Int32.toBitVec_toInt8, BitVec.getLsbD_signExtend, BitVec.getLsbD_signExtend, if_pos (by omega), if_pos (by omega), fdM_bit hi (by omega), Int64.toBitVec_toInt32, BitVec.getLsbD_signExtend, if_pos (by omega), UInt64.toBitVec_toInt64, UInt64.toBitVec_shiftRight, (sh_8 i hi).2.1]
  rw [show (Int64.toUInt64 y).toBitVec >>> BitVec.ofNat 64 (8 * i) = (Int64.toUInt64 y).toBitVec >>> (BitVec.ofNat 64 (8 * i)).toNat from rfl, (sh_8 i hi).2.2, BitVec.getLsbD_ushiftRight, Int64.toBitVec_toUInt64]
  simp [hj, show j < 32 by omega]
theorem feed_n (hn : n ≤ 200) (h : okFd n x) : ∃ m, 1 ≤ m ∧ m ≤ 8 ∧ x = nI m ∧ n + m ≤ 200 := by
  obtain ⟨⟨h1, h8⟩, h2⟩ := h
  have h0 : ¬ x < 0 := fun hh => h1 (Int32.lt_trans hh (by decide))
  obtain ⟨m, hm, rfl⟩ := nI_of h0
  rw [n_lt hm (by decide)] at h1
  rw [n_lt (by decide) hm] at h8
  rw [nI_add, n_lt (by decide) (by omega)] at h2
  exact ⟨m, by omega, by omega, rfl, by omega⟩
theorem fed_ok (h : okT T n) : okT (tr_fT T n y x) (tr_fn n x) := by
  unfold tr_fT tr_fn
  by_cases ho : okFd n x
  · rw [if_pos ho, if_pos ho]
    obtain ⟨m, m1, m8, rfl, hm⟩ := feed_n h.1 ho
    rw [nI_clamp (by omega)]
    refine ⟨hm, fun k hk => ?_⟩
    unfold fdT
    by_cases hk2 : k < n
    · rw [if_pos hk2]; exact h.2 k hk2
    · rw [if_neg hk2]; exact (fdM_n (by omega)).1
  · rw [if_neg ho, if_neg ho]; exact h
theorem e101 (hm : m ≤ 8) (hn : n + m ≤ 200) : ∀ j k (I1 : mI), k + j = m → (∀ a, a ≠ 198 → I1 a = I a) → I 0 17 = nI n → (∀ i, i < n → I1 198 i = sx (T i)) → (∀ i, i < k → I1 198 (n + i) = sx (bN y i)) → ∃ I', (∀ a, a ≠ 198 → a ≠ 0 → I' a = I a) ∧ (∀ f, f ≠ 17 → I' 0 f = I 0 f) ∧ I' 0 17 = nI (n + m) ∧ (∀ i, i < n → I' 198 i = sx (T i)) ∧ (∀ i, i < m → I' 198 (n + i) = sx (bN y i)) ∧ am_X (am_cal d) 101 20 [.ref 0, .long y, .null, .int (nI m), .int (nI k)] [] (mS I1 J) = some (some (.int (nI (n + m))), mS I' J) := by
  have l198 : lyC 198 = 101 := lc_198
  intro j
  induction j with
  | zero =>
    intro k I1 hk h1 h17 h2 h3
    have hk' : k = m := by omega
    subst hk'
    have g17 : I1 0 17 = nI n := by rw [h1 0 (by decide)]; exact h17
    refine ⟨wI I1 0 17 (nI (n + k)), fun a ha hb => by rw [wI_F1 a hb, h1 a ha], fun f hf => by rw [wI_nk hf, h1 0 (by decide)], wI_eq, fun i hi => by rw [wI_ne (by decide)]; exact h2 i hi, fun i hi => by rw [wI_ne (by decide)]; exact h3 i hi, ?_⟩
    rw [e_101_20]
    simp only [lc_0, n_lt (show k < 2 ^ 31 by omega) (show k < 2 ^ 31 by omega), Nat.lt_irrefl, g17, nI_add, wI_eq, bq_s, mS_c, mS_l, mS_r, mS_i, mS_j, mS_pi, mS_pj, lt_st, bq_s, bV_s, bI_s, bJ_s, bA_s, nz_0, nc_0, nz_1, nc_1, nz_2, nc_2, nz_3, nc_3, nz_4, nc_4, nz_5, nc_5, nz_6, nc_6, nz_7, nc_7, nz_8, nc_8, nz_9, nc_9, nz_10, nc_10, nz_11, nc_11, nz_12, nc_12, if_true, if_false, eq_self, true_and, and_true, false_or, or_false, true_or, or_true, false_and, and_false, not_true, not_false_eq_true, ne_eq, ite_self, ite_not, ↓reduceIte, n_101, n_107, n_11]
  | succ j ih =>
    intro k I1 hk h1 h17 h2 h3
    have g17 : I1 0 17 = nI n := by rw [h1 0 (by decide)]; exact h17
    have i0c : (nI (n + k)).toNatClampNeg = n + k := nI_clamp (by omega)
    have i0z : (nI (n + k) < 0) = False := n_ge0 (by omega)
    have i0l : (200 ≤ n + k) = False := n_lef (by omega)
    obtain ⟨I', a1, a2, a3, a4, a5, a6⟩ := ih (k + 1) (wI I1 198 (n + k) (sx (bN y k))) (by omega) (fun a ha => by rw [wI_F1 a ha, h1 a ha]) h17 (fun i hi => by rw [wI_nk (by omega)]; exact h2 i hi) (fun i hi => by
      by_cases e : i = k
      · subst e; rw [wI_eq]
      · rw [wI_nk (by omega)]; exact h3 i (by omega))
    refine ⟨I', a1, a2, a3, a4, a5, ?_⟩
    have hv : Int8.toInt32 (Int32.toInt8 (Int8.toInt32 (Int32.toInt8 (Int64.toInt32 (UInt64.toInt64 (Int64.toUInt64 y >>> Int64.toUInt64 (Int32.toInt64 (nI 8 * nI k) &&& 63))))))) = sx (bN y k) := fdC_eq (by omega)
    rw [e_101_20]
    simp only [lc_0, lr_0_7, l198, ll_198, n_lt (show k < 2 ^ 31 by omega) (show m < 2 ^ 31 by omega), eq_true (show k < m by omega), g17, nI_add, i0c, i0z, i0l, hv, bq_s, mS_c, mS_l, mS_r, mS_i, mS_j, mS_pi, mS_pj, lt_st, bq_s, bV_s, bI_s, bJ_s, bA_s, nz_0, nc_0, nz_1, nc_1, nz_2, nc_2, nz_3, nc_3, nz_4, nc_4, nz_5, nc_5, nz_6, nc_6, nz_7, nc_7, nz_8, nc_8, nz_9, nc_9, nz_10, nc_10, nz_11, nc_11, nz_12, nc_12, if_true, if_false, eq_self, true_and, and_true, false_or, or_false, true_or, or_true, false_and, and_false, not_true, not_false_eq_true, ne_eq, ite_self, ite_not, ↓reduceIte, n_101, n_107, n_11]
    exact a6
theorem k101 (hT : okT T n) (hC : TpC I T n) : ∃ I', (∀ a, a ≠ 198 → a ≠ 0 → I' a = I a) ∧ (∀ f, f ≠ 17 → I' 0 f = I 0 f) ∧ TpC I' (tr_fT T n y x) (tr_fn n x) ∧ am_cal (d + 1) 101 [.ref 0, .long y, .int x] (mS I J) = some (some (.int (v_feed n x)), mS I' J) := by
  obtain ⟨h17, hT2⟩ := hC
  have hn := hT.1
  have l198 : (100 ≤ 101 ∧ 101 < 200) = True := eq_true (by decide)
  have e0 : am_cal (d + 1) 101 [.ref 0, .long y, .int x] (mS I J) = _ := c_101 lc_0
  simp only [lc_0, lr_0_7, lc_198, ll_198, l198, h17, bq_s, mS_c, mS_l, mS_r, mS_i, mS_j, mS_pi, mS_pj, lt_st, bq_s, bV_s, bI_s, bJ_s, bA_s, nz_0, nc_0, nz_1, nc_1, nz_2, nc_2, nz_3, nc_3, nz_4, nc_4, nz_5, nc_5, nz_6, nc_6, nz_7, nc_7, nz_8, nc_8, nz_9, nc_9, nz_10, nc_10, nz_11, nc_11, nz_12, nc_12, if_true, if_false, eq_self, true_and, and_true, false_or, or_false, true_or, or_true, false_and, and_false, not_true, not_false_eq_true, ne_eq, ite_self, ite_not, ↓reduceIte, n_101, n_107, n_11] at e0
  have nope : ¬ okFd n x → ∀ r, v_feed n x = r → am_cal (d + 1) 101 [.ref 0, .long y, .int x] (mS I J) = some (some (.int r), mS I J) → ∃ I', (∀ a, a ≠ 198 → a ≠ 0 → I' a = I a) ∧ (∀ f, f ≠ 17 → I' 0 f = I 0 f) ∧ TpC I' (tr_fT T n y x) (tr_fn n x) ∧ am_cal (d + 1) 101 [.ref 0, .long y, .int x] (mS I J) = some (some (.int (v_feed n x)), mS I' J) := fun hno r hr h => by
    unfold tr_fT tr_fn
    rw [if_neg hno, if_neg hno, hr]
    exact ⟨I, fun _ _ _ => rfl, fun _ _ => rfl, ⟨h17, hT2⟩, h⟩
  by_cases h1 : x < nI 1
  · rw [if_pos h1] at e0
    exact nope (fun h => h.1.1 h1) _ (by unfold v_feed; rw [if_neg (fun h => h.1 h1)]) e0
  · rw [if_neg h1] at e0
    by_cases h8 : nI 8 < x
    · rw [if_pos h8] at e0
      exact nope (fun h => h.1.2 h8) _ (by unfold v_feed; rw [if_neg (fun h => h.2 h8)]) e0
    · rw [if_neg h8] at e0
      by_cases h2 : nI 200 < nI n + x
      · rw [if_pos h2] at e0
        exact nope (fun h => h.2 h2) _ (by unfold v_feed; rw [if_pos ⟨h1, h8⟩, if_pos h2]) e0
      · rw [if_neg h2] at e0
        have ho : okFd n x := ⟨⟨h1, h8⟩, h2⟩
        obtain ⟨m, m1, m8, rfl, hm⟩ := feed_n hn ho
        obtain ⟨I', a1, a2, a3, a4, a5, a6⟩ := e101 (d := d) (J := J) (I := I) (y := y) m8 hm m 0 I (by omega) (fun _ _ => rfl) h17 hT2 (fun i hi => absurd hi (Nat.not_lt_zero i))
        unfold tr_fT tr_fn v_feed
        rw [if_pos ho, if_pos ho, if_pos ⟨h1, h8⟩, if_neg h2, nI_clamp (by omega), nI_add]
        refine ⟨I', a1, a2, ⟨a3, fun k hk => ?_⟩, by rw [e0]; exact a6⟩
        unfold fdT
        by_cases hk2 : k < n
        · rw [if_pos hk2]; exact a4 k hk2
        · rw [if_neg hk2]
          have := a5 (k - n) (by omega)
          rw [show n + (k - n) = k by omega] at this
          exact this
theorem e177 (hm : m ≤ 8) (hn : n + m ≤ 200) : ∀ j k (I1 : mI), k + j = m → (∀ a, a ≠ 233 → a ≠ 229 → I1 a = I a) → (∀ f, f ≠ 7 → I1 229 f = I 229 f) → I1 229 7 = nI (n + k) → (∀ i, i < n → I1 233 i = nI (T i)) → (∀ i, i < k → I1 233 (n + i) = nI (bN y i)) → ∃ I', (∀ a, a ≠ 233 → a ≠ 229 → I' a = I a) ∧ (∀ f, f ≠ 7 → I' 229 f = I 229 f) ∧ I' 229 7 = nI (n + m) ∧ (∀ i, i < n → I' 233 i = nI (T i)) ∧ (∀ i, i < m → I' 233 (n + i) = nI (bN y i)) ∧ am_X (am_cal d) 177 18 [.ref 229, .long y, .null, .int (nI m), .int (nI k)] [] (mS I1 J) = some (some (.int (nI (n + m))), mS I' J) := by
  intro j
  induction j with
  | zero =>
    intro k I1 hk h1 h1' h7 h2 h3
    have hk' : k = m := by omega
    subst hk'
    refine ⟨I1, h1, h1', h7, h2, h3, ?_⟩
    rw [e_177_18]
    simp only [lc_229, n_lt (show k < 2 ^ 31 by omega) (show k < 2 ^ 31 by omega), Nat.lt_irrefl, h7, lc_229, lr_229_0, lc_230, ll_230, bq_s, mS_c, mS_l, mS_r, mS_i, mS_j, mS_pi, mS_pj, lt_st, bq_s, bV_s, bI_s, bJ_s, bA_s, nz_0, nc_0, nz_1, nc_1, nz_2, nc_2, nz_3, nc_3, nz_4, nc_4, nz_5, nc_5, nz_6, nc_6, nz_7, nc_7, nz_8, nc_8, nz_9, nc_9, nz_10, nc_10, nz_11, nc_11, nz_12, nc_12, if_true, if_false, eq_self, true_and, and_true, false_or, or_false, true_or, or_true, false_and, and_false, not_true, not_false_eq_true, ne_eq, ite_self, ite_not, ↓reduceIte]
  | succ j ih =>
    intro k I1 hk h1 h1' h7 h2 h3
    have i0c : (nI (n + k)).toNatClampNeg = n + k := nI_clamp (by omega)
    have i0z : (nI (n + k) < 0) = False := n_ge0 (by omega)
    have i0l : (200 ≤ n + k) = False := n_lef (by omega)
    have hv : Int64.toInt32 ((y >>> (Int32.toInt64 (nI 8 * nI k) &&& 63)) &&& lN 255) = nI (bN y k) := (fdM_n (by omega)).2
    have g7 : wI I1 233 (n + k) (nI (bN y k)) 229 7 = nI (n + k) := by rw [wI_ne (by decide)]; exact h7
    obtain ⟨I', a1, a2, a3, a4, a5, a6⟩ := ih (k + 1) (wI (wI I1 233 (n + k) (nI (bN y k))) 229 7 (nI (n + k + 1))) (by omega) (fun a ha hb => by rw [wI_F1 a hb, wI_F1 a ha, h1 a ha hb]) (fun f hf => by rw [wI_nk hf, wI_ne (by decide), h1' f hf]) (by rw [wI_eq]; rfl) (fun i hi => by rw [wI_ne (by decide), wI_nk (by omega)]; exact h2 i hi) (fun i hi => by
      rw [wI_ne (by decide)]
      by_cases e : i = k
      · subst e; rw [wI_eq]
      · rw [wI_nk (by omega)]; exact h3 i (by omega))
    refine ⟨I', a1, a2, a3, a4, a5, ?_⟩
    rw [e_177_18]
    simp only [lc_229, lr_229_4, lc_233, ll_233, n_lt (show k < 2 ^ 31 by omega) (show m < 2 ^ 31 by omega), eq_true (show k < m by omega), h7, g7, nI_add, i0c, i0z, i0l, hv, lc_229, lr_229_0, lc_230, ll_230, bq_s, mS_c, mS_l, mS_r, mS_i, mS_j, mS_pi, mS_pj, lt_st, bq_s, bV_s, bI_s, bJ_s, bA_s, nz_0, nc_0, nz_1, nc_1, nz_2, nc_2, nz_3, nc_3, nz_4, nc_4, nz_5, nc_5, nz_6, nc_6, nz_7, nc_7, nz_8, nc_8, nz_9, nc_9, nz_10, nc_10, nz_11, nc_11, nz_12, nc_12, if_true, if_false, eq_self, true_and, and_true, false_or, or_false, true_or, or_true, false_and, and_false, not_true, not_false_eq_true, ne_eq, ite_self, ite_not, ↓reduceIte]
    exact a6
theorem m177 (hT : okT T n) (hC : TpM I T n) : ∃ I', (∀ a, a ≠ 233 → a ≠ 229 → I' a = I a) ∧ (∀ f, f ≠ 7 → I' 229 f = I 229 f) ∧ TpM I' (tr_fT T n y x) (tr_fn n x) ∧ am_cal (d + 2) 177 [.ref 229, .long y, .int x] (mS I J) = some (some (.int (v_feed n x)), mS I' J) := by
  obtain ⟨h17, hT2⟩ := hC
  have hn := hT.1
  have e0 : am_cal (d + 2) 177 [.ref 229, .long y, .int x] (mS I J) = _ := c_177 lc_229
  rw [m151 (by decide) (by decide), bI_s] at e0
  have nope : ¬ okFd n x → ∀ r, v_feed n x = r → am_cal (d + 2) 177 [.ref 229, .long y, .int x] (mS I J) = some (some (.int r), mS I J) → ∃ I', (∀ a, a ≠ 233 → a ≠ 229 → I' a = I a) ∧ (∀ f, f ≠ 7 → I' 229 f = I 229 f) ∧ TpM I' (tr_fT T n y x) (tr_fn n x) ∧ am_cal (d + 2) 177 [.ref 229, .long y, .int x] (mS I J) = some (some (.int (v_feed n x)), mS I' J) := fun hno r hr h => by
    unfold tr_fT tr_fn
    rw [if_neg hno, if_neg hno, hr]
    exact ⟨I, fun _ _ _ => rfl, fun _ _ => rfl, ⟨h17, hT2⟩, h⟩
  by_cases h1 : ¬ x < nI 1 ∧ ¬ nI 8 < x
  · rw [if_pos h1, if_neg (by decide)] at e0
    simp only [lc_229, h17, lc_229, lr_229_0, lc_230, ll_230, bq_s, mS_c, mS_l, mS_r, mS_i, mS_j, mS_pi, mS_pj, lt_st, bq_s, bV_s, bI_s, bJ_s, bA_s, nz_0, nc_0, nz_1, nc_1, nz_2, nc_2, nz_3, nc_3, nz_4, nc_4, nz_5, nc_5, nz_6, nc_6, nz_7, nc_7, nz_8, nc_8, nz_9, nc_9, nz_10, nc_10, nz_11, nc_11, nz_12, nc_12, if_true, if_false, eq_self, true_and, and_true, false_or, or_false, true_or, or_true, false_and, and_false, not_true, not_false_eq_true, ne_eq, ite_self, ite_not, ↓reduceIte] at e0
    by_cases h2 : nI 200 < nI n + x
    · rw [if_pos h2] at e0
      exact nope (fun h => h.2 h2) _ (by unfold v_feed; rw [if_pos h1, if_pos h2]) e0
    · rw [if_neg h2] at e0
      have ho : okFd n x := ⟨h1, h2⟩
      obtain ⟨m, m1, m8, rfl, hm⟩ := feed_n hn ho
      obtain ⟨I', a1, a2, a3, a4, a5, a6⟩ := e177 (d := d + 1) (J := J) (I := I) (y := y) m8 hm m 0 I (by omega) (fun _ _ _ => rfl) (fun _ _ => rfl) h17 hT2 (fun i hi => absurd hi (Nat.not_lt_zero i))
      unfold tr_fT tr_fn v_feed
      rw [if_pos ho, if_pos ho, if_pos h1, if_neg h2, nI_clamp (by omega), nI_add]
      refine ⟨I', a1, a2, ⟨a3, fun k hk => ?_⟩, by rw [e0]; exact a6⟩
      unfold fdT
      by_cases hk2 : k < n
      · rw [if_pos hk2]; exact a4 k hk2
      · rw [if_neg hk2]
        have := a5 (k - n) (by omega)
        rw [show n + (k - n) = k by omega] at this
        exact this
  · rw [if_neg h1, if_pos nI_0] at e0
    exact nope (fun h => h1 h.1) _ (by unfold v_feed; rw [if_neg h1]) e0
end J1s
