/-! ===== lender ===== -/
def lenU (p : Nat) : Nat → Rw → Rw
  | 0, s => s
  | n + 1, s => lenU p n (cpS s (nI p) (nI 2) (nI 0) (s 0) (nI 1))
def mxU (h : Nat → Nat) : Nat → Nat → Nat → Nat
  | 0, _, m => m
  | n + 1, k, m => mxU h n (k + 1) (if m < h k then h k else m)
noncomputable def lenV (p n c : Nat) (s : Rw) : Nat := mxU (shA (lenU p n s) c) (nP (lenU p n s)) 0 0
abbrev okLe (s : Rw) (n : Nat) : Prop := nC s < 12 ∧ nP s + n ≤ 12 ∧ nE s + n ≤ 18
noncomputable def v_lend (s : Rw) (x y z : Int32) : Int64 := if isP s x ∧ (¬ y < 0 ∧ ¬ nI 4 < y) ∧ i2 z then (if isAw s x.toNatClampNeg then (if okLe s y.toNatClampNeg then low (lenV x.toNatClampNeg y.toNatClampNeg (nC s) (clS s (nI 0) (nI x.toNatClampNeg) (nI 1))) z else Int64.ofInt (-2)) else Int64.ofInt (-4)) else Int64.ofInt (-1)
section I15s
variable {I I' : mI} {J : mJ} {s t : Rw} {d k n q p i c m b l : Nat} {a x y z u v w : Int32} {h : Nat → Nat}
theorem mxU_le {B : Nat} (hb : ∀ x, x < 12 → h x ≤ B) : ∀ n k m, k + n ≤ 12 → m ≤ B → mxU h n k m ≤ B
  | 0, _, _, _, hm => hm
  | n + 1, k, m, hk, hm => by
    unfold mxU
    have := hb k (by omega)
    exact mxU_le hb n (k + 1) _ (by omega) (by split <;> omega)
/-- one more copy -/
theorem len_s (hW : WF s) (hp : p < nP s) (ha : isAw s p) (ho : okR s) : WF (cpS s (nI p) (nI 2) (nI 0) (s 0) (nI 1)) ∧ nP (cpS s (nI p) (nI 2) (nI 0) (s 0) (nI 1)) = nP s + 1 ∧ nE (cpS s (nI p) (nI 2) (nI 0) (s 0) (nI 1)) = nE s + 1 ∧ nC (cpS s (nI p) (nI 2) (nI 0) (s 0) (nI 1)) = nC s ∧ isAw (cpS s (nI p) (nI 2) (nI 0) (s 0) (nI 1)) p ∧ hiS (cpS s (nI p) (nI 2) (nI 0) (s 0) (nI 1)) s := by
  obtain ⟨hN, pf, _⟩ := cpS_NF (x := nI p) (y := nI 2) (z := nI 0) (u := s 0) (v := nI 1) hW ho
  obtain ⟨hx, hr, hP, e1, hEE, _⟩ := hN
  have := ho.1
  refine ⟨WF_copy hW ho (pay_cp1 hW hp) hp ha, hP, hEE, ?_, ?_, ?_⟩
  · unfold nC; rw [hr.2.1]
  · unfold isAw; rw [pf p 0 hp (by decide)]; exact ha
  · unfold cpS
    exact hiS_s (hiS_s (hiS_s (hiS_co ho) (by omega)) (by omega)) (by omega)
theorem len_W : ∀ n s, WF s → p < nP s → isAw s p → nP s + n ≤ 12 → nE s + n ≤ 18 → WF (lenU p n s) ∧ nC (lenU p n s) = nC s ∧ hiS (lenU p n s) s
  | 0, s, hW, _, _, _, _ => ⟨hW, rfl, hiS_r⟩
  | n + 1, s, hW, hp, ha, h1, h2 => by
    obtain ⟨a1, a2, a3, a4, a5, a6⟩ := len_s hW hp ha ⟨by omega, by omega⟩
    obtain ⟨b1, b2, b3⟩ := len_W n _ a1 (by omega) a5 (by omega) (by omega)
    exact ⟨b1, b2.trans a4, fun j hj => (b3 j hj).trans (a6 j hj)⟩
theorem e119b (hR : Rep I 127 s) (hW : WF s) (hh : HC J 193 h) (hb : ∀ p, p < 12 → h p ≤ WH) : ∀ n k m, k + n = nP s → m ≤ WH → am_X (am_cal (d + 1)) 119 66 [.ref 0, .null, .null, .int z, .null, .long (lN m), .null, .int (nI k)] [] (mS I J) = some (some (.long (low (mxU h n k m) z)), mS I J) := by
  have h12 := hW.nP.1
  have ew : WH = 4194304 := rfl
  have h9 : I 127 9 = nI (nP s) := hR.ppl.trans hW.nP.2
  intro n
  induction n with
  | zero =>
    intro k m hk hm
    rw [e_119_66]
    simp only [lc_0, lr_0_2, w_C W127, h9, n_lt (show k < 2 ^ 31 by omega) (show nP s < 2 ^ 31 by omega), eq_false (show ¬ k < nP s by omega), k34 (show m < 2 ^ 60 by omega), bJ_s, mxU, bq_s, mS_c, mS_l, mS_r, mS_i, mS_j, mS_pi, mS_pj, lt_st, bq_s, bV_s, bI_s, bJ_s, bA_s, nz_0, nc_0, nz_1, nc_1, nz_2, nc_2, nz_3, nc_3, nz_4, nc_4, nz_5, nc_5, nz_6, nc_6, nz_7, nc_7, nz_8, nc_8, nz_9, nc_9, nz_10, nc_10, nz_11, nc_11, nz_12, nc_12, if_true, if_false, eq_self, true_and, and_true, false_or, or_false, true_or, or_true, false_and, and_false, not_true, not_false_eq_true, ne_eq, ite_self, ite_not, ↓reduceIte, n_101, n_107, n_11]
  | succ n ih =>
    intro k m hk hm
    have hk12 : k < 12 := by omega
    have i0c : (nI (k)).toNatClampNeg = k := nI_clamp (by omega)
    have i0z : (nI (k) < 0) = False := n_ge0 (by omega)
    have i0l : (12 ≤ k) = False := n_lef (by omega)
    have hj := hb k hk12
    rw [e_119_66]
    simp only [lc_0, lr_0_2, lr_0_4, lc_192, lr_192_1, lc_193, ll_193, w_C W127, h9, n_lt (show k < 2 ^ 31 by omega) (show nP s < 2 ^ 31 by omega), eq_true (show k < nP s by omega), i0c, i0z, i0l, hh k hk12, LN_lt (show h k < 2 ^ 63 by omega) (show m < 2 ^ 63 by omega), nI_add, show (0 ≤ 8) = True from eq_true (by decide), bq_s, mS_c, mS_l, mS_r, mS_i, mS_j, mS_pi, mS_pj, lt_st, bq_s, bV_s, bI_s, bJ_s, bA_s, nz_0, nc_0, nz_1, nc_1, nz_2, nc_2, nz_3, nc_3, nz_4, nc_4, nz_5, nc_5, nz_6, nc_6, nz_7, nc_7, nz_8, nc_8, nz_9, nc_9, nz_10, nc_10, nz_11, nc_11, nz_12, nc_12, if_true, if_false, eq_self, true_and, and_true, false_or, or_false, true_or, or_true, false_and, and_false, not_true, not_false_eq_true, ne_eq, ite_self, ite_not, ↓reduceIte, n_101, n_107, n_11]
    have e : (if h k < m then lN m else lN (h k)) = lN (if m < h k then h k else m) := by
      by_cases h1 : h k < m
      · rw [if_pos h1, if_neg (by omega)]
      · rw [if_neg h1]
        by_cases h2 : m < h k
        · rw [if_pos h2]
        · rw [if_neg h2, show h k = m by omega]
    rw [e, ih (k + 1) _ (by omega) (by split <;> omega)]
    rfl
theorem e119 (hc : c < 12) (hm4 : m ≤ 4) (hp12 : p < 12) : ∀ n k s (I1 : mI) (J1 : mJ), k + n = m → Rep I1 127 s → WF s → p < nP s → isAw s p → c < nC s → ∃ I' J', FQ I' I1 ∧ G1 193 J' J1 ∧ am_X (am_cal (d + 6)) 119 40 [.ref 0, .int (nI p), .int (nI m), .int z, .int (nI c), .int (nI k), .null, .null] [] (mS I1 J1) = some (some (.long (if nP s + n ≤ 12 ∧ nE s + n ≤ 18 then low (lenV p n c s) z else Int64.ofInt (-2))), mS I' J') := by
  have ew : WH = 4194304 := rfl
  intro n
  induction n with
  | zero =>
    intro k s I1 J1 hk hR hW hp ha hcn
    have h12 := hW.nP.1
    have h18 := hW.nE.1
    obtain ⟨I2, J2, b1, b2, b3, b4⟩ := k37 (d := d) (J := J1) (Or.inr ⟨rfl, rfl⟩ : isG 192 127) hR hW hcn
    have hR2 : Rep I2 127 s := hR.fr hW fun a h1 h2 h3 => b1 a h3
    refine ⟨I2, J2, fun a h => b1 a (by omega), b2, ?_⟩
    rw [e_119_40]
    simp only [n_lt (show k < 2 ^ 31 by omega) (show m < 2 ^ 31 by omega), eq_false (show ¬ k < m by omega), lc_0, lr_0_4, b4, bq_s, mS_c, mS_l, mS_r, mS_i, mS_j, mS_pi, mS_pj, lt_st, bq_s, bV_s, bI_s, bJ_s, bA_s, nz_0, nc_0, nz_1, nc_1, nz_2, nc_2, nz_3, nc_3, nz_4, nc_4, nz_5, nc_5, nz_6, nc_6, nz_7, nc_7, nz_8, nc_8, nz_9, nc_9, nz_10, nc_10, nz_11, nc_11, nz_12, nc_12, if_true, if_false, eq_self, true_and, and_true, false_or, or_false, true_or, or_true, false_and, and_false, not_true, not_false_eq_true, ne_eq, ite_self, ite_not, ↓reduceIte, n_101, n_107, n_11]
    have hb := e119b (d := d + 5) (z := z) hR2 hW b3 (fun x _ => shA_le hW hcn x) (nP s) 0 0 (by omega) (Nat.zero_le _)
    rw [if_pos ⟨h12, h18⟩]
    exact hb
  | succ n ih =>
    intro k s I1 J1 hk hR hW hp ha hcn
    have h12 := hW.nP.1
    have hd : I1 127 8 = s 0 := hR.day
    obtain ⟨I2, b1, b2, b3⟩ := k74 (d := d) (J := J1) (v := nI 1) W127 hR hW hp (pay_cp1 hW hp) ha (Or.inr (by decide))
    have e0 : am_X (am_cal (d + 6)) 119 40 [.ref 0, .int (nI p), .int (nI m), .int z, .int (nI c), .int (nI k), .null, .null] [] (mS I1 J1) = _ := e_119_40
    simp only [n_lt (show k < 2 ^ 31 by omega) (show m < 2 ^ 31 by omega), eq_true (show k < m by omega), lc_0, lr_0_2, w_C W127, hd, b3, nI_add, bq_s, mS_c, mS_l, mS_r, mS_i, mS_j, mS_pi, mS_pj, lt_st, bq_s, bV_s, bI_s, bJ_s, bA_s, nz_0, nc_0, nz_1, nc_1, nz_2, nc_2, nz_3, nc_3, nz_4, nc_4, nz_5, nc_5, nz_6, nc_6, nz_7, nc_7, nz_8, nc_8, nz_9, nc_9, nz_10, nc_10, nz_11, nc_11, nz_12, nc_12, if_true, if_false, eq_self, true_and, and_true, false_or, or_false, true_or, or_true, false_and, and_false, not_true, not_false_eq_true, ne_eq, ite_self, ite_not, ↓reduceIte, n_101, n_107, n_11] at e0
    by_cases ho : okR s
    · rw [if_pos ho] at b2
      rw [if_pos ho, if_neg (nI_pos (show nP s < 2 ^ 31 by omega))] at e0
      obtain ⟨a1, a2, a3, a4, a5, a6⟩ := len_s hW hp ha ho
      obtain ⟨I3, J3, c1, c2, c3⟩ := ih (k + 1) _ I2 J1 (by omega) b2 a1 (by omega) a5 (by omega)
      refine ⟨I3, J3, fun a h => by rw [c1 a h, b1 a (by omega)], c2, ?_⟩
      rw [e0, c3]
      have eq1 : (nP (cpS s (nI p) (nI 2) (nI 0) (s 0) (nI 1)) + n ≤ 12 ∧ nE (cpS s (nI p) (nI 2) (nI 0) (s 0) (nI 1)) + n ≤ 18) = (nP s + (n + 1) ≤ 12 ∧ nE s + (n + 1) ≤ 18) := by
        rw [a2, a3]
        exact propext ⟨fun h => by omega, fun h => by omega⟩
      by_cases hf : nP s + (n + 1) ≤ 12 ∧ nE s + (n + 1) ≤ 18
      · rw [if_pos (by rw [eq1]; exact hf), if_pos hf]; rfl
      · rw [if_neg (by rw [eq1]; exact hf), if_neg hf]
    · rw [if_neg ho, if_pos (show Int32.ofInt (-2) < 0 by decide)] at e0
      refine ⟨I2, J1, fun a h => b1 a (by omega), fun _ _ => rfl, ?_⟩
      rw [e0, if_neg]
      intro hf
      exact ho ⟨by omega, by omega⟩
theorem k119 (hR : Rep I 1 s) (hW : WF s) : ∃ I' J', FQ I' I ∧ G1 193 J' J ∧ am_cal (d + 7) 119 [.ref 0, .int x, .int y, .int z] (mS I J) = some (some (.long (v_lend s x y z)), mS I' J') := by
  have h12 := hW.nP.1
  have e0 : am_cal (d + 7) 119 [.ref 0, .int x, .int y, .int z] (mS I J) = _ := c_119 lc_0
  simp only [lc_0, lr_0_0, k65 W1 hR, bq_s, mS_c, mS_l, mS_r, mS_i, mS_j, mS_pi, mS_pj, lt_st, bq_s, bV_s, bI_s, bJ_s, bA_s, nz_0, nc_0, nz_1, nc_1, nz_2, nc_2, nz_3, nc_3, nz_4, nc_4, nz_5, nc_5, nz_6, nc_6, nz_7, nc_7, nz_8, nc_8, nz_9, nc_9, nz_10, nc_10, nz_11, nc_11, nz_12, nc_12, if_true, if_false, eq_self, true_and, and_true, false_or, or_false, true_or, or_true, false_and, and_false, not_true, not_false_eq_true, ne_eq, ite_self, ite_not, ↓reduceIte, n_101, n_107, n_11] at e0
  unfold v_lend
  by_cases hx : isP s x
  · rw [if_pos hx, if_neg (by decide)] at e0
    by_cases h0 : y < 0
    · rw [if_pos h0] at e0
      rw [if_neg (fun h => h.2.1.1 h0)]
      exact ⟨I, J, fun _ _ => rfl, fun _ _ => rfl, e0⟩
    · rw [if_neg h0] at e0
      by_cases h4 : nI 4 < y
      · rw [if_pos h4] at e0
        rw [if_neg (fun h => h.2.1.2 h4)]
        exact ⟨I, J, fun _ _ => rfl, fun _ _ => rfl, e0⟩
      · rw [if_neg h4, k147, bI_s] at e0
        by_cases hz : i2 z
        · rw [if_pos hz, if_neg (by decide)] at e0
          rw [if_pos ⟨hx, ⟨h0, h4⟩, hz⟩]
          obtain ⟨p, hp, rfl⟩ := isP_n hW hx
          have pc : (nI p).toNatClampNeg = p := nI_clamp (by omega)
          obtain ⟨m, hm, rfl⟩ := nI_of h0
          rw [n_lt (by decide) hm] at h4
          have mc : (nI m).toNatClampNeg = m := nI_clamp hm
          simp only [lc_0, lr_0_0, bq_s, mS_c, mS_l, mS_r, mS_i, mS_j, mS_pi, mS_pj, lt_st, bq_s, bV_s, bI_s, bJ_s, bA_s, nz_0, nc_0, nz_1, nc_1, nz_2, nc_2, nz_3, nc_3, nz_4, nc_4, nz_5, nc_5, nz_6, nc_6, nz_7, nc_7, nz_8, nc_8, nz_9, nc_9, nz_10, nc_10, nz_11, nc_11, nz_12, nc_12, if_true, if_false, eq_self, true_and, and_true, false_or, or_false, true_or, or_true, false_and, and_false, not_true, not_false_eq_true, ne_eq, ite_self, ite_not, ↓reduceIte, n_101, n_107, n_11] at e0
          rw [k68 W1 hR hW hp, bI_s] at e0
          rw [pc, mc]
          by_cases ha : isAw s p
          · rw [if_pos ha, if_neg (by decide)] at e0
            rw [if_pos ha]
            obtain ⟨I1, a1, a2, a3⟩ := k64 (d := d + 4) (J := J) W127 W1 (by decide) hR hW
            simp only [lc_0, lr_0_0, lr_0_2, bq_s, mS_c, mS_l, mS_r, mS_i, mS_j, mS_pi, mS_pj, lt_st, bq_s, bV_s, bI_s, bJ_s, bA_s, nz_0, nc_0, nz_1, nc_1, nz_2, nc_2, nz_3, nc_3, nz_4, nc_4, nz_5, nc_5, nz_6, nc_6, nz_7, nc_7, nz_8, nc_8, nz_9, nc_9, nz_10, nc_10, nz_11, nc_11, nz_12, nc_12, if_true, if_false, eq_self, true_and, and_true, false_or, or_false, true_or, or_true, false_and, and_false, not_true, not_false_eq_true, ne_eq, ite_self, ite_not, ↓reduceIte, n_101, n_107, n_11] at e0
            rw [show d + 6 = d + 4 + 2 from rfl, a3, bV_s] at e0
            simp only [lc_0, lr_0_2, bq_s, mS_c, mS_l, mS_r, mS_i, mS_j, mS_pi, mS_pj, lt_st, bq_s, bV_s, bI_s, bJ_s, bA_s, nz_0, nc_0, nz_1, nc_1, nz_2, nc_2, nz_3, nc_3, nz_4, nc_4, nz_5, nc_5, nz_6, nc_6, nz_7, nc_7, nz_8, nc_8, nz_9, nc_9, nz_10, nc_10, nz_11, nc_11, nz_12, nc_12, if_true, if_false, eq_self, true_and, and_true, false_or, or_false, true_or, or_true, false_and, and_false, not_true, not_false_eq_true, ne_eq, ite_self, ite_not, ↓reduceIte, n_101, n_107, n_11] at e0
            obtain ⟨I2, b1, b2, b3⟩ := k81 (d := d + 4) (J := J) (x := nI 0) (y := nI p) (z := nI 1) W127 a2 hW
            rw [b3, bI_s] at e0
            by_cases hC : nC s < 12
            · rw [if_pos hC] at b2
              rw [if_pos hC, if_neg (nI_pos (show nC s < 2 ^ 31 by omega))] at e0
              obtain ⟨o, o3, on, _⟩ := clS_f (x := nI 0) (y := nI p) (z := nI 1) hC
              have hW2 : WF (clS s (nI 0) (nI p) (nI 1)) := WF_claim hW hC (Or.inl rfl) hp ha (by decide) (by decide)
              have hP2 : nP (clS s (nI 0) (nI p) (nI 1)) = nP s := by unfold nP; rw [o 1 (by decide) (by omega)]
              have hE2 : nE (clS s (nI 0) (nI p) (nI 1)) = nE s := by unfold nE; rw [o 2 (by decide) (by omega)]
              have ha2 : isAw (clS s (nI 0) (nI p) (nI 1)) p := by
                have e : pF (clS s (nI 0) (nI p) (nI 1)) p 0 = pF s p 0 := o _ (by omega) (by omega)
                unfold isAw; rw [e]; exact ha
              obtain ⟨I3, J3, c1, c2, c3⟩ := e119 (d := d) (z := z) (c := nC s) (m := m) (p := p) hC (by omega) (by omega) m 0 _ I2 J (by omega) b2 hW2 (by omega) ha2 (by omega)
              refine ⟨I3, J3, fun a h => by rw [c1 a h, b1 a (by omega), a1 a (by omega)], c2, ?_⟩
              rw [hP2, hE2] at c3
              rw [e0, show d + 4 + 2 = d + 6 from rfl, c3]
              by_cases hf : nP s + m ≤ 12 ∧ nE s + m ≤ 18
              · rw [if_pos hf, if_pos ⟨hC, hf⟩]
              · rw [if_neg hf, if_neg (fun h => hf h.2)]
            · rw [if_neg hC, if_pos (show Int32.ofInt (-2) < 0 by decide)] at e0
              refine ⟨I2, J, fun a h => by rw [b1 a (by omega), a1 a (by omega)], fun _ _ => rfl, ?_⟩
              rw [e0, if_neg (fun h => hC h.1)]
          · rw [if_neg ha, if_pos nI_0] at e0
            rw [if_neg ha]
            exact ⟨I, J, fun _ _ => rfl, fun _ _ => rfl, e0⟩
        · rw [if_neg hz, if_pos nI_0] at e0
          rw [if_neg (fun h => hz h.2.2)]
          exact ⟨I, J, fun _ _ => rfl, fun _ _ => rfl, e0⟩
  · rw [if_neg hx, if_pos nI_0] at e0
    rw [if_neg (fun h => hx h.1)]
    exact ⟨I, J, fun _ _ => rfl, fun _ _ => rfl, e0⟩
/-! the model -/
theorem e238b (hW : WF (I 230)) (hh : HM J h) (hb : ∀ p, p < 12 → h p ≤ WH) : ∀ n k m, k + n = nP (I 230) → m ≤ WH → am_X (am_cal (d + 2)) 238 81 [.ref 229, .null, .null, .int z, .null, .long (lN (m * 16384)), .null, .int (nI k)] [] (mS I J) = some (some (.long (low (mxU h n k m) z)), mS (cpA I 232 230 546) J) := by
  have h12 := hW.nP.1
  have ew : WH = 4194304 := rfl
  have h9 : I 230 1 = nI (nP (I 230)) := hW.nP.2
  intro n
  induction n with
  | zero =>
    intro k m hk hm
    rw [e_238_81]
    simp only [lc_229, lr_229_0, lc_230, ll_230, n_lef (show 1 < 546 by decide), h9, n_lt (show k < 2 ^ 31 by omega) (show nP (I 230) < 2 ^ 31 by omega), eq_false (show ¬ k < nP (I 230) by omega), show d + 2 = d + 1 + 1 from rfl, m235, m158 (show m < 2 ^ 45 by omega), bJ_s, mxU, lc_229, lr_229_0, lc_230, ll_230, bq_s, mS_c, mS_l, mS_r, mS_i, mS_j, mS_pi, mS_pj, lt_st, bq_s, bV_s, bI_s, bJ_s, bA_s, nz_0, nc_0, nz_1, nc_1, nz_2, nc_2, nz_3, nc_3, nz_4, nc_4, nz_5, nc_5, nz_6, nc_6, nz_7, nc_7, nz_8, nc_8, nz_9, nc_9, nz_10, nc_10, nz_11, nc_11, nz_12, nc_12, if_true, if_false, eq_self, true_and, and_true, false_or, or_false, true_or, or_true, false_and, and_false, not_true, not_false_eq_true, ne_eq, ite_self, ite_not, ↓reduceIte]
  | succ n ih =>
    intro k m hk hm
    have hk12 : k < 12 := by omega
    have i0c : (nI (k)).toNatClampNeg = k := nI_clamp (by omega)
    have i0z : (nI (k) < 0) = False := n_ge0 (by omega)
    have i0l : (12 ≤ k) = False := n_lef (by omega)
    have hj := hb k hk12
    have hmul : (m * 16384 < h k * 16384) = (m < h k) := propext ⟨fun h => by omega, fun h => by omega⟩
    rw [e_238_81]
    simp only [lc_229, lr_229_0, lr_229_17, lc_239, ll_239, lc_230, ll_230, n_lef (show 1 < 546 by decide), h9, n_lt (show k < 2 ^ 31 by omega) (show nP (I 230) < 2 ^ 31 by omega), eq_true (show k < nP (I 230) by omega), i0c, i0z, i0l, hh k hk12, l_gt, LN_lt (show m * 16384 < 2 ^ 63 by omega) (show h k * 16384 < 2 ^ 63 by omega), hmul, nI_add, lc_229, lr_229_0, lc_230, ll_230, bq_s, mS_c, mS_l, mS_r, mS_i, mS_j, mS_pi, mS_pj, lt_st, bq_s, bV_s, bI_s, bJ_s, bA_s, nz_0, nc_0, nz_1, nc_1, nz_2, nc_2, nz_3, nc_3, nz_4, nc_4, nz_5, nc_5, nz_6, nc_6, nz_7, nc_7, nz_8, nc_8, nz_9, nc_9, nz_10, nc_10, nz_11, nc_11, nz_12, nc_12, if_true, if_false, eq_self, true_and, and_true, false_or, or_false, true_or, or_true, false_and, and_false, not_true, not_false_eq_true, ne_eq, ite_self, ite_not, ↓reduceIte]
    by_cases h2 : m < h k
    · rw [if_pos h2, ih (k + 1) (h k) (by omega) hj]
      show _ = some (some (Value.long (low (mxU h n (k + 1) (if m < h k then h k else m)) z)), _)
      rw [if_pos h2]
    · rw [if_neg h2, ih (k + 1) m (by omega) hm]
      show _ = some (some (Value.long (low (mxU h n (k + 1) (if m < h k then h k else m)) z)), _)
      rw [if_neg h2]
abbrev FLe (I' I : mI) : Prop := ∀ a, a ≠ 230 → a ≠ 236 → a ≠ 237 → a ≠ 238 → I' a = I a
theorem e238 (hc : c < 12) (hm4 : m ≤ 4) (hp12 : p < 12) (hs : ∀ j, j < 546 → I 232 j = s j) : ∀ n k (I1 : mI) (J1 : mJ), k + n = m → FLe I1 I → hiS (I1 230) s → WF (I1 230) → p < nP (I1 230) → isAw (I1 230) p → c < nC (I1 230) → nP (I1 230) + n ≤ 12 → nE (I1 230) + n ≤ 18 → ∃ I' J', FLe I' I ∧ I' 230 = s ∧ GM J' J1 ∧ am_X (am_cal (d + 8)) 238 58 [.ref 229, .int (nI p), .int (nI m), .int z, .int (nI c), .int (nI k), .null, .null] [] (mS I1 J1) = some (some (.long (low (lenV p n c (I1 230)) z)), mS I' J') := by
  have ew : WH = 4194304 := rfl
  intro n
  induction n with
  | zero =>
    intro k I1 J1 hk hf hhi hW hp ha hcn hP hE
    obtain ⟨I2, J2, b1, b2, b3, b4⟩ := m210 (d := d) (J := J1) (I := I1) hW hcn
    have f0 : I2 230 = I1 230 := b1 230 (by decide) (by decide) (by decide)
    have bk : cpA I2 232 230 546 = wR I2 s := cpA_bk (fun j hj => by rw [b1 232 (by decide) (by decide) (by decide), hf 232 (by decide) (by decide) (by decide) (by decide)]; exact hs j hj) (by rw [f0]; exact hhi)
    refine ⟨wR I2 s, J2, fun a h0 h1 h2 h3 => by rw [wR_n h0, b1 a h1 h2 h3, hf a h0 h1 h2 h3], wR_r, b2, ?_⟩
    rw [e_238_58]
    simp only [n_lt (show k < 2 ^ 31 by omega) (show m < 2 ^ 31 by omega), eq_false (show ¬ k < m by omega), b4, lc_229, lr_229_0, lc_230, ll_230, bq_s, mS_c, mS_l, mS_r, mS_i, mS_j, mS_pi, mS_pj, lt_st, bq_s, bV_s, bI_s, bJ_s, bA_s, nz_0, nc_0, nz_1, nc_1, nz_2, nc_2, nz_3, nc_3, nz_4, nc_4, nz_5, nc_5, nz_6, nc_6, nz_7, nc_7, nz_8, nc_8, nz_9, nc_9, nz_10, nc_10, nz_11, nc_11, nz_12, nc_12, if_true, if_false, eq_self, true_and, and_true, false_or, or_false, true_or, or_true, false_and, and_false, not_true, not_false_eq_true, ne_eq, ite_self, ite_not, ↓reduceIte]
    have hb := e238b (d := d + 6) (z := z) (I := I2) (by rw [f0]; exact hW) b3 (fun x _ => shA_le hW hcn x) (nP (I1 230)) 0 0 (by rw [f0]; omega) (Nat.zero_le _)
    rw [bk, Nat.zero_mul] at hb
    exact hb
  | succ n ih =>
    intro k I1 J1 hk hf hhi hW hp ha hcn hP hE
    have ho : okR (I1 230) := ⟨by omega, by omega⟩
    obtain ⟨a1, a2, a3, a4, a5, a6⟩ := len_s hW hp ha ho
    have e0 : am_X (am_cal (d + 8)) 238 58 [.ref 229, .int (nI p), .int (nI m), .int z, .int (nI c), .int (nI k), .null, .null] [] (mS I1 J1) = _ := e_238_58
    simp only [n_lt (show k < 2 ^ 31 by omega) (show m < 2 ^ 31 by omega), eq_true (show k < m by omega), lc_229, lr_229_0, lc_230, ll_230, n_lef (show 0 < 546 by decide), nI_add, lc_229, lr_229_0, lc_230, ll_230, bq_s, mS_c, mS_l, mS_r, mS_i, mS_j, mS_pi, mS_pj, lt_st, bq_s, bV_s, bI_s, bJ_s, bA_s, nz_0, nc_0, nz_1, nc_1, nz_2, nc_2, nz_3, nc_3, nz_4, nc_4, nz_5, nc_5, nz_6, nc_6, nz_7, nc_7, nz_8, nc_8, nz_9, nc_9, nz_10, nc_10, nz_11, nc_11, nz_12, nc_12, if_true, if_false, eq_self, true_and, and_true, false_or, or_false, true_or, or_true, false_and, and_false, not_true, not_false_eq_true, ne_eq, ite_self, ite_not, ↓reduceIte] at e0
    rw [show d + 8 = d + 5 + 3 from rfl, m164 hW ho, bI_s, cp_kd] at e0
    have r0 : wR I1 (cpS (I1 230) (nI p) (nI 2) (nI 0) (I1 230 0) (nI 1)) 230 = cpS (I1 230) (nI p) (nI 2) (nI 0) (I1 230 0) (nI 1) := wR_r
    obtain ⟨I3, J3, c1, c2, c3, c4⟩ := ih (k + 1) (wR I1 (cpS (I1 230) (nI p) (nI 2) (nI 0) (I1 230 0) (nI 1))) J1 (by omega) (fun a h0 h1 h2 h3 => by rw [wR_n h0, hf a h0 h1 h2 h3]) (by rw [r0]; exact fun j hj => (a6 j hj).trans (hhi j hj)) (by rw [r0]; exact a1) (by rw [r0]; omega) (by rw [r0]; exact a5) (by rw [r0]; omega) (by rw [r0]; omega) (by rw [r0]; omega)
    rw [r0] at c4
    exact ⟨I3, J3, c1, c2, c3, e0.trans c4⟩
theorem m238 (hW : WF (I 230)) : ∃ I' J', FYM I' I ∧ GM J' J ∧ am_cal (d + 9) 238 [.ref 229, .int x, .int y, .int z] (mS I J) = some (some (.long (v_lend (I 230) x y z)), mS I' J') := by
  have h12 := hW.nP.1
  have e0 : am_cal (d + 9) 238 [.ref 229, .int x, .int y, .int z] (mS I J) = _ := c_238 lc_229
  rw [show d + 8 = d + 6 + 2 from rfl, m153 hW, bI_s] at e0
  unfold v_lend
  by_cases hx : isP (I 230) x
  · rw [if_pos hx, if_neg (by decide), m151 (by decide) (by decide), bI_s] at e0
    by_cases hy : ¬ y < nI 0 ∧ ¬ nI 4 < y
    · have hy' : ¬ y < 0 ∧ ¬ nI 4 < y := by rw [n_i0]; exact hy
      rw [if_pos hy, if_neg (by decide), m151 (by decide) (by decide), bI_s] at e0
      by_cases hz : ¬ z < nI 0 ∧ ¬ nI 1 < z
      · rw [if_pos hz, if_neg (by decide)] at e0
        rw [i2_in] at hz
        rw [if_pos ⟨hx, hy', hz⟩]
        obtain ⟨p, hp, rfl⟩ := isP_n hW hx
        have pc : (nI p).toNatClampNeg = p := nI_clamp (by omega)
        obtain ⟨m, hm, rfl⟩ := nI_of hy'.1
        have h4 := hy'.2
        rw [n_lt (by decide) hm] at h4
        have mc : (nI m).toNatClampNeg = m := nI_clamp hm
        rw [m154 (show p < 12 by omega), bI_s] at e0
        rw [pc, mc]
        by_cases ha : isAw (I 230) p
        · rw [if_pos ha, if_neg (by decide)] at e0
          rw [if_pos ha]
          have hC12 := hW.nC.1
          have hE18 := hW.nE.1
          have e3 : I 230 3 = nI (nC (I 230)) := hW.nC.2
          have e1 : I 230 1 = nI (nP (I 230)) := hW.nP.2
          have e2 : I 230 2 = nI (nE (I 230)) := hW.nE.2
          simp only [lc_229, lr_229_0, lc_230, ll_230, n_lef (show 3 < 546 by decide), n_lef (show 1 < 546 by decide), n_lef (show 2 < 546 by decide), e1, e2, e3, nI_add, n_eq (show nC (I 230) < 2 ^ 31 by omega) (show 12 < 2 ^ 31 by decide), n_lt (show 12 < 2 ^ 31 by decide) (show nP (I 230) + m < 2 ^ 31 by omega), n_lt (show 18 < 2 ^ 31 by decide) (show nE (I 230) + m < 2 ^ 31 by omega), lc_229, lr_229_0, lc_230, ll_230, bq_s, mS_c, mS_l, mS_r, mS_i, mS_j, mS_pi, mS_pj, lt_st, bq_s, bV_s, bI_s, bJ_s, bA_s, nz_0, nc_0, nz_1, nc_1, nz_2, nc_2, nz_3, nc_3, nz_4, nc_4, nz_5, nc_5, nz_6, nc_6, nz_7, nc_7, nz_8, nc_8, nz_9, nc_9, nz_10, nc_10, nz_11, nc_11, nz_12, nc_12, if_true, if_false, eq_self, true_and, and_true, false_or, or_false, true_or, or_true, false_and, and_false, not_true, not_false_eq_true, ne_eq, ite_self, ite_not, ↓reduceIte] at e0
          by_cases hC : nC (I 230) = 12
          · rw [if_pos hC] at e0
            rw [if_neg (fun h => by have := h.1; omega)]
            exact ⟨I, J, fun _ _ _ _ _ => rfl, fun _ _ => rfl, e0⟩
          · rw [if_neg hC] at e0
            by_cases hP : 12 < nP (I 230) + m
            · rw [if_pos hP] at e0
              rw [if_neg (fun h => by have := h.2.1; omega)]
              exact ⟨I, J, fun _ _ _ _ _ => rfl, fun _ _ => rfl, e0⟩
            · rw [if_neg hP] at e0
              by_cases hE : 18 < nE (I 230) + m
              · rw [if_pos hE] at e0
                rw [if_neg (fun h => by have := h.2.2; omega)]
                exact ⟨I, J, fun _ _ _ _ _ => rfl, fun _ _ => rfl, e0⟩
              · rw [if_neg hE] at e0
                have hC2 : nC (I 230) < 12 := by omega
                rw [if_pos ⟨hC2, by omega, by omega⟩]
                have c0 : cpA I 230 232 546 230 = I 230 := cpA_n (by decide)
                have c2 : ∀ j, j < 546 → cpA I 230 232 546 232 j = I 230 j := fun j hj => cpA_e hj
                rw [show d + 6 + 2 = d + 7 + 1 from rfl, m234, bV_s, m201 (I := cpA I 230 232 546) (by rw [c0]; exact hC2) (by rw [c0]; exact e3), bI_s, c0] at e0
                obtain ⟨o, o3, on, _⟩ := clS_f (x := nI 0) (y := nI p) (z := nI 1) hC2
                have hW2 : WF (clS (I 230) (nI 0) (nI p) (nI 1)) := WF_claim hW hC2 (Or.inl rfl) hp ha (by decide) (by decide)
                have hP2 : nP (clS (I 230) (nI 0) (nI p) (nI 1)) = nP (I 230) := by unfold nP; rw [o 1 (by decide) (by omega)]
                have hE2 : nE (clS (I 230) (nI 0) (nI p) (nI 1)) = nE (I 230) := by unfold nE; rw [o 2 (by decide) (by omega)]
                have ha2 : isAw (clS (I 230) (nI 0) (nI p) (nI 1)) p := by
                  have e : pF (clS (I 230) (nI 0) (nI p) (nI 1)) p 0 = pF (I 230) p 0 := o _ (by omega) (by omega)
                  unfold isAw; rw [e]; exact ha
                have r0 : wR (cpA I 230 232 546) (clS (I 230) (nI 0) (nI p) (nI 1)) 230 = clS (I 230) (nI 0) (nI p) (nI 1) := wR_r
                obtain ⟨I3, J3, d1, d2, d3, d4⟩ := e238 (d := d) (z := z) (c := nC (I 230)) (m := m) (p := p) (I := cpA I 230 232 546) (s := I 230) hC2 (by omega) (by omega) c2 m 0 (wR (cpA I 230 232 546) (clS (I 230) (nI 0) (nI p) (nI 1))) J (by omega) (fun a h0 _ _ _ => wR_n h0) (by rw [r0]; exact fun j hj => o j (by omega) (by omega)) (by rw [r0]; exact hW2) (by rw [r0]; omega) (by rw [r0]; exact ha2) (by rw [r0]; omega) (by rw [r0]; omega) (by rw [r0]; omega)
                rw [r0] at d4
                refine ⟨I3, J3, fun a h0 h1 h2 h3 => ?_, d3, e0.trans d4⟩
                by_cases e : a = 230
                · subst e; rw [d2]
                · rw [d1 a e h1 h2 h3, cpA_n h0]
        · rw [if_neg ha, if_pos nI_0] at e0
          rw [if_neg ha]
          exact ⟨I, J, fun _ _ _ _ _ => rfl, fun _ _ => rfl, e0⟩
      · rw [if_neg hz, if_pos nI_0] at e0
        rw [i2_in] at hz
        rw [if_neg (fun h => hz h.2.2)]
        exact ⟨I, J, fun _ _ _ _ _ => rfl, fun _ _ => rfl, e0⟩
    · rw [if_neg hy, if_pos nI_0] at e0
      rw [if_neg (fun h => hy (by rw [← n_i0]; exact h.2.1))]
      exact ⟨I, J, fun _ _ _ _ _ => rfl, fun _ _ => rfl, e0⟩
  · rw [if_neg hx, if_pos nI_0] at e0
    rw [if_neg (fun h => hx h.1)]
    exact ⟨I, J, fun _ _ _ _ _ => rfl, fun _ _ => rfl, e0⟩
end I15s
