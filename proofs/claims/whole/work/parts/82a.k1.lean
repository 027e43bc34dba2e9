/-! ===== call ===== -/
def ccU (s : Rw) : Nat → Nat → Nat → Nat
  | 0, p, _ => p
  | n + 1, p, l => if isAw s p then (if l = 0 then p else ccU s n (p + 1) (l - 1)) else ccU s n (p + 1) l
def clZ (s : Rw) : Int32 := s 7 * nI 1103515245 + nI 12345
def clM (s : Rw) : Nat := (Int32.toUInt32 (clZ s) >>> Int32.toUInt32 (nI 16 &&& 31)).toNat
def v_call (s : Rw) : Int32 := if awk s = 0 then Int32.ofInt (-3) else nI (ccU s (nP s) 0 (clM s % awk s))
def tr_call (s : Rw) : Rw := if awk s = 0 then s else rset s 7 (clZ s)
section K1s
variable {I I' : mI} {J : mJ} {s : Rw} {d k n q p i c m l : Nat} {x y z : Int32}
theorem clM_lt : clM s < 65536 := by
  unfold clM
  rw [UInt32.toNat_shiftRight]
  have h := (Int32.toUInt32 (clZ s)).toNat_lt
  have e : (Int32.toUInt32 (nI 16 &&& 31)).toNat % 32 = 16 := by decide
  rw [e, Nat.shiftRight_eq_div_pow]
  omega
theorem clM_e : UInt32.toInt32 (Int32.toUInt32 (clZ s) >>> Int32.toUInt32 (nI 16 &&& 31)) = nI (clM s) := by
  apply Int32.toBitVec_inj.mp
  show _ = BitVec.ofNat 32 _
  unfold clM
  rw [show (Int32.toUInt32 (clZ s) >>> Int32.toUInt32 (nI 16 &&& 31)).toNat = (Int32.toUInt32 (clZ s) >>> Int32.toUInt32 (nI 16 &&& 31)).toBitVec.toNat from rfl, BitVec.ofNat_toNat, BitVec.setWidth_eq]
  rfl
theorem cl_rem (h : 0 < awk s) (h12 : awk s ≤ 12) : nI (clM s) - nI (clM s) / nI (awk s) * nI (awk s) = nI (clM s % awk s) := by
  have := clM_lt (s := s)
  rw [pk_rem (by omega) (by omega) (by omega)]
theorem e121 (hR : Rep I 1 s) (hW : WF s) : ∀ n p l, p + n = nP s → l < cntA s n p → am_X (am_cal (d + 1)) 121 28 [.ref 0, .null, .int (nI l), .int (nI p)] [] (mS I J) = some (some (.int (nI (ccU s n p l))), mS I J) := by
  have h12 := hW.nP.1
  have h9 : I 1 9 = nI (nP s) := hR.ppl.trans hW.nP.2
  intro n
  induction n with
  | zero => intro p l hp hl; exact absurd hl (Nat.not_lt_zero _)
  | succ n ih =>
    intro p l hp hl
    have hpn : p < nP s := by omega
    have ca := cntA_le (s := s) n (p + 1)
    rw [e_121_28]
    simp only [lc_0, lr_0_0, w_C W1, h9, n_lt (show p < 2 ^ 31 by omega) (show nP s < 2 ^ 31 by omega), eq_true hpn, k68 W1 hR hW hpn, nI_add, bq_s, mS_c, mS_l, mS_r, mS_i, mS_j, mS_pi, mS_pj, lt_st, bq_s, bV_s, bI_s, bJ_s, bA_s, nz_0, nc_0, nz_1, nc_1, nz_2, nc_2, nz_3, nc_3, nz_4, nc_4, nz_5, nc_5, nz_6, nc_6, nz_7, nc_7, nz_8, nc_8, nz_9, nc_9, nz_10, nc_10, nz_11, nc_11, nz_12, nc_12, if_true, if_false, eq_self, true_and, and_true, false_or, or_false, true_or, or_true, false_and, and_false, not_true, not_false_eq_true, ne_eq, ite_self, ite_not, ↓reduceIte, n_101, n_107, n_11]
    have hl' : l < (if isAw s p then 1 else 0) + cntA s n (p + 1) := hl
    show _ = some (some (Value.int (nI (if isAw s p then (if l = 0 then p else ccU s n (p + 1) (l - 1)) else ccU s n (p + 1) l))), mS I J)
    by_cases ha : isAw s p
    · rw [if_pos ha] at hl'
      rw [if_pos ha, if_neg (by decide), if_pos ha]
      by_cases h0 : l = 0
      · subst h0; rw [if_pos nI_0, if_pos rfl]
      · rw [if_neg (by rw [n_i0, n_eq (by omega) (by decide)]; exact h0), if_neg h0, n_sub (show 1 ≤ l by omega), ih (p + 1) (l - 1) (by omega) (by omega)]
    · rw [if_neg ha] at hl'
      rw [if_neg ha, if_pos nI_0, if_neg ha, ih (p + 1) l (by omega) (by omega)]
theorem k121 (hR : Rep I 1 s) (hW : WF s) : ∃ I', FP I' I ∧ Rep I' 1 (tr_call s) ∧ am_cal (d + 3) 121 [.ref 0] (mS I J) = some (some (.int (v_call s)), mS I' J) := by
  have h12 := hW.nP.1
  have ha12 := awk_le s
  have zed : I 1 14 = s 7 := hR.zed
  have e0 : am_cal (d + 3) 121 [.ref 0] (mS I J) = _ := c_121 lc_0
  simp only [lc_0, lr_0_0, k70 W1 hR hW, bq_s, mS_c, mS_l, mS_r, mS_i, mS_j, mS_pi, mS_pj, lt_st, bq_s, bV_s, bI_s, bJ_s, bA_s, nz_0, nc_0, nz_1, nc_1, nz_2, nc_2, nz_3, nc_3, nz_4, nc_4, nz_5, nc_5, nz_6, nc_6, nz_7, nc_7, nz_8, nc_8, nz_9, nc_9, nz_10, nc_10, nz_11, nc_11, nz_12, nc_12, if_true, if_false, eq_self, true_and, and_true, false_or, or_false, true_or, or_true, false_and, and_false, not_true, not_false_eq_true, ne_eq, ite_self, ite_not, ↓reduceIte, n_101, n_107, n_11] at e0
  unfold v_call tr_call
  by_cases h0 : awk s = 0
  · rw [if_pos (by rw [h0]; exact nI_0)] at e0
    rw [if_pos h0, if_pos h0]
    exact ⟨I, fun _ _ _ _ => rfl, hR, e0⟩
  · have hz : (nI (awk s) = 0) = False := eq_false (by rw [n_i0, n_eq (by omega) (by decide)]; exact h0)
    rw [if_neg h0, if_neg h0]
    have hR1 : Rep (wI I 1 14 (clZ s)) 1 (rset s 7 (clZ s)) := Rep_one hR hW (Or.inr ⟨rfl, rfl⟩)
    have hW1 := WF_seed (x := clZ s) hW
    refine ⟨_, wI1_fp, hR1, ?_⟩
    simp only [hz, lc_0, lr_0_0, w_C W1, zed, wI_eq, bq_s, mS_c, mS_l, mS_r, mS_i, mS_j, mS_pi, mS_pj, lt_st, bq_s, bV_s, bI_s, bJ_s, bA_s, nz_0, nc_0, nz_1, nc_1, nz_2, nc_2, nz_3, nc_3, nz_4, nc_4, nz_5, nc_5, nz_6, nc_6, nz_7, nc_7, nz_8, nc_8, nz_9, nc_9, nz_10, nc_10, nz_11, nc_11, nz_12, nc_12, if_true, if_false, eq_self, true_and, and_true, false_or, or_false, true_or, or_true, false_and, and_false, not_true, not_false_eq_true, ne_eq, ite_self, ite_not, ↓reduceIte, n_101, n_107, n_11] at e0
    rw [show s 7 * nI 1103515245 + nI 12345 = clZ s from rfl, clM_e, cl_rem (by omega) (by omega)] at e0
    have hlt : clM s % awk s < cntA s (nP s) 0 := Nat.mod_lt _ (by omega)
    have same : ∀ n p, p + n = nP s → cntA (rset s 7 (clZ s)) n p = cntA s n p ∧ ∀ l, ccU (rset s 7 (clZ s)) n p l = ccU s n p l := by
      intro n
      induction n with
      | zero => intro p hp; exact ⟨rfl, fun l => rfl⟩
      | succ n ih =>
        intro p hp
        obtain ⟨a, b⟩ := ih (p + 1) (by omega)
        have e : pF (rset s 7 (clZ s)) p 0 = pF s p 0 := rset_n (by omega)
        refine ⟨?_, fun l => ?_⟩
        · show (if isAw (rset s 7 (clZ s)) p then 1 else 0) + cntA (rset s 7 (clZ s)) n (p + 1) = (if isAw s p then 1 else 0) + cntA s n (p + 1)
          rw [a]; unfold isAw; rw [e]
        · show (if isAw (rset s 7 (clZ s)) p then (if l = 0 then p else ccU (rset s 7 (clZ s)) n (p + 1) (l - 1)) else ccU (rset s 7 (clZ s)) n (p + 1) l) = (if isAw s p then (if l = 0 then p else ccU s n (p + 1) (l - 1)) else ccU s n (p + 1) l)
          rw [b, b]; unfold isAw; rw [e]
    have hP : nP (rset s 7 (clZ s)) = nP s := by unfold nP; rw [rset_n (by decide)]
    have he := e121 (d := d + 1) (J := J) hR1 hW1 (nP s) 0 (clM s % awk s) (by rw [hP]; omega) (by rw [(same (nP s) 0 (by omega)).1]; exact hlt)
    rw [(same (nP s) 0 (by omega)).2] at he
    exact e0.trans he
theorem e240 (hW : WF (I 230)) : ∀ n p l, p + n = nP (I 230) → l < cntA (I 230) n p → am_X (am_cal (d + 2)) 240 30 [.ref 229, .null, .int (nI l), .int (nI p)] [] (mS I J) = some (some (.int (nI (ccU (I 230) n p l))), mS I J) := by
  have h12 := hW.nP.1
  intro n
  induction n with
  | zero => intro p l hp hl; exact absurd hl (Nat.not_lt_zero _)
  | succ n ih =>
    intro p l hp hl
    have hpn : p < nP (I 230) := by omega
    have ca := cntA_le (s := I 230) n (p + 1)
    rw [e_240_30]
    simp only [m154 (show p < 12 by omega), bI_s, nI_add]
    have hl' : l < (if isAw (I 230) p then 1 else 0) + cntA (I 230) n (p + 1) := hl
    show _ = some (some (Value.int (nI (if isAw (I 230) p then (if l = 0 then p else ccU (I 230) n (p + 1) (l - 1)) else ccU (I 230) n (p + 1) l))), mS I J)
    by_cases ha : isAw (I 230) p
    · rw [if_pos ha] at hl'
      rw [if_pos ha, if_neg (by decide), if_pos ha]
      by_cases h0 : l = 0
      · subst h0
        rw [if_neg (by decide), if_pos rfl]
      · have hl1 : (0 : Int32) < nI l := by rw [n_i0, n_lt (by decide) (by omega)]; omega
        rw [if_pos hl1, if_neg (by decide), if_neg h0, n_sub (show 1 ≤ l by omega), ih (p + 1) (l - 1) (by omega) (by omega)]
    · rw [if_neg ha] at hl'
      rw [if_neg ha, if_pos nI_0, if_pos nI_0, if_neg ha, n_sub (Nat.zero_le l), Nat.sub_zero, ih (p + 1) l (by omega) (by omega)]
theorem m240 (hW : WF (I 230)) : am_cal (d + 4) 240 [.ref 229] (mS I J) = some (some (.int (v_call (I 230))), mS (wR I (tr_call (I 230))) J) := by
  have h12 := hW.nP.1
  have ha12 := awk_le (I 230)
  have e0 : am_cal (d + 4) 240 [.ref 229] (mS I J) = _ := c_240 lc_229
  rw [m156 hW, bI_s] at e0
  unfold v_call tr_call
  by_cases h0 : awk (I 230) = 0
  · rw [if_pos (by rw [h0]; exact nI_0)] at e0
    rw [if_pos h0, if_pos h0, wR_I]
    exact e0
  · have hz : (nI (awk (I 230)) = 0) = False := eq_false (by rw [n_i0, n_eq (by omega) (by decide)]; exact h0)
    rw [if_neg h0, if_neg h0]
    have hW1 := WF_seed (x := clZ (I 230)) hW
    simp only [hz, n_lef (show 7 < 546 by decide), wI_R, wI_eq, lc_229, lr_229_0, lc_230, ll_230, bq_s, mS_c, mS_l, mS_r, mS_i, mS_j, mS_pi, mS_pj, lt_st, bq_s, bV_s, bI_s, bJ_s, bA_s, nz_0, nc_0, nz_1, nc_1, nz_2, nc_2, nz_3, nc_3, nz_4, nc_4, nz_5, nc_5, nz_6, nc_6, nz_7, nc_7, nz_8, nc_8, nz_9, nc_9, nz_10, nc_10, nz_11, nc_11, nz_12, nc_12, if_true, if_false, eq_self, true_and, and_true, false_or, or_false, true_or, or_true, false_and, and_false, not_true, not_false_eq_true, ne_eq, ite_self, ite_not, ↓reduceIte] at e0
    rw [show I 230 7 * nI 1103515245 + nI 12345 = clZ (I 230) from rfl] at e0
    have r0 : wR I (rset (I 230) 7 (clZ (I 230))) 230 = rset (I 230) 7 (clZ (I 230)) := wR_r
    have r7 : wR I (rset (I 230) 7 (clZ (I 230))) 230 7 = clZ (I 230) := by rw [r0]; exact rset_e
    rw [clM_e, cl_rem (by omega) (by omega)] at e0
    have hlt : clM (I 230) % awk (I 230) < cntA (I 230) (nP (I 230)) 0 := Nat.mod_lt _ (by omega)
    have same : ∀ n p, p + n = nP (I 230) → cntA (rset (I 230) 7 (clZ (I 230))) n p = cntA (I 230) n p ∧ ∀ l, ccU (rset (I 230) 7 (clZ (I 230))) n p l = ccU (I 230) n p l := by
      intro n
      induction n with
      | zero => intro p hp; exact ⟨rfl, fun l => rfl⟩
      | succ n ih =>
        intro p hp
        obtain ⟨a, b⟩ := ih (p + 1) (by omega)
        have e : pF (rset (I 230) 7 (clZ (I 230))) p 0 = pF (I 230) p 0 := rset_n (by omega)
        refine ⟨?_, fun l => ?_⟩
        · show (if isAw (rset (I 230) 7 (clZ (I 230))) p then 1 else 0) + cntA (rset (I 230) 7 (clZ (I 230))) n (p + 1) = (if isAw (I 230) p then 1 else 0) + cntA (I 230) n (p + 1)
          rw [a]; unfold isAw; rw [e]
        · show (if isAw (rset (I 230) 7 (clZ (I 230))) p then (if l = 0 then p else ccU (rset (I 230) 7 (clZ (I 230))) n (p + 1) (l - 1)) else ccU (rset (I 230) 7 (clZ (I 230))) n (p + 1) l) = (if isAw (I 230) p then (if l = 0 then p else ccU (I 230) n (p + 1) (l - 1)) else ccU (I 230) n (p + 1) l)
          rw [b, b]; unfold isAw; rw [e]
    have hP : nP (rset (I 230) 7 (clZ (I 230))) = nP (I 230) := by unfold nP; rw [rset_n (by decide)]
    have he := e240 (d := d + 1) (J := J) (I := wR I (rset (I 230) 7 (clZ (I 230)))) (by rw [r0]; exact hW1) (nP (I 230)) 0 (clM (I 230) % awk (I 230)) (by rw [r0, hP]; omega) (by rw [r0, (same (nP (I 230)) 0 (by omega)).1]; exact hlt)
    rw [r0, (same (nP (I 230)) 0 (by omega)).2] at he
    exact e0.trans he
theorem W_call (hW : WF s) : WF (tr_call s) ∧ hiS (tr_call s) s := by
  unfold tr_call
  by_cases h : awk s = 0
  · rw [if_pos h]; exact ⟨hW, hiS_r⟩
  · rw [if_neg h]; exact ⟨WF_seed hW, hiS_s hiS_r (by decide)⟩
end K1s
