/-! ===== the class: a new person ===== -/
def peV (x day : Int32) : Nat → Int32
  | 0 => x
  | 1 => x
  | 4 => day
  | 8 => nI 999
  | 9 => nI 1
  | 10 => nI 0
  | 11 => nI 0
  | _ => m9
def peI (I : mI) (c : Nat) (x day : Int32) : mI := fun a j => if a = c ∧ j < 12 then peV x day j else I a j
def newI (I : mI) (w n e : Nat) (kind sort : Int32) : mI := tellI (wI (peI I (w + 13 + n) kind (I w 8)) w 9 (nI (n + 1))) w e sort (nI n)
section G3s
variable {I I' : mI} {J : mJ} {s s' : Rw} {w p q e c d k n g : Nat} {x y z u v sort key : Int32}
theorem peI_e {j : Nat} (h : j < 12) : peI I c x y c j = peV x y j := if_pos ⟨rfl, h⟩
theorem peI_n {a : Nat} (h : a ≠ c) : peI I c x y a = I a := funext fun _ => if_neg fun hh => h hh.1
theorem peI_w : wI (wI (wI (wI (wI (wI (wI (wI (wI (wI (wI (wI I c 0 x) c 1 x) c 2 m9) c 3 m9) c 4 y) c 5 m9) c 6 m9) c 7 m9) c 8 (nI 999)) c 9 (nI 1)) c 10 (nI 0)) c 11 (nI 0) = peI I c x y := by
  funext a j
  unfold peI wI
  by_cases ha : a = c
  · by_cases hj : j < 12
    · rcases (show j = 0 ∨ j = 1 ∨ j = 2 ∨ j = 3 ∨ j = 4 ∨ j = 5 ∨ j = 6 ∨ j = 7 ∨ j = 8 ∨ j = 9 ∨ j = 10 ∨ j = 11 by omega) with rfl | rfl | rfl | rfl | rfl | rfl | rfl | rfl | rfl | rfl | rfl | rfl <;> simp [ha, peV]
    · have h : ∀ k, k < 12 → ¬ j = k := fun k hk => by omega
      simp [ha, hj, h]
  · simp [ha]
theorem k55 (hc : lyC c = 7) : am_cal (d + 1) 55 [.ref c, .int x, .int y] (mS I J) = some (none, mS (peI I c x y) J) := by
  have m9e : Int32.ofInt (-9) = m9 := rfl
  rw [c_55 hc]
  simp only [hc, m9e, bq_s, mS_c, mS_l, mS_r, mS_i, mS_j, mS_pi, mS_pj, lt_st, bq_s, bV_s, bI_s, bJ_s, bA_s, nz_0, nc_0, nz_1, nc_1, nz_2, nc_2, nz_3, nc_3, nz_4, nc_4, nz_5, nc_5, nz_6, nc_6, nz_7, nc_7, nz_8, nc_8, nz_9, nc_9, nz_10, nc_10, nz_11, nc_11, nz_12, nc_12, if_true, if_false, eq_self, true_and, and_true, false_or, or_false, true_or, or_true, false_and, and_false, not_true, not_false_eq_true, ne_eq, ite_self, ite_not, ↓reduceIte, n_101, n_107, n_11]
  rw [peI_w]
theorem k78 (hw : isW w) (hn : n < 12) (he : e < 18) (h9 : I w 9 = nI n) (h10 : I w 10 = nI e) : am_cal (d + 3) 78 [.ref w, .int x, .int sort] (mS I J) = some (some (.int (nI n)), mS (newI I w n e x sort) J) := by
  have i0c : (nI (n)).toNatClampNeg = n := nI_clamp (by omega)
  have i0z : (nI (n) < 0) = False := n_ge0 (by omega)
  have i0l : (12 ≤ n) = False := n_lef (by omega)
  have pw : ∀ X Y, peI I (w + 13 + n) X Y w = I w := fun X Y => peI_n (by omega)
  have h80 := k80 (d := d) (J := J) (I := wI (peI I (w + 13 + n) x (I w 8)) w 9 (nI (n + 1))) (e := e) (sort := sort) (x := nI n) hw he (by rw [wI_nk (by decide), pw]; exact h10)
  rw [c_78 (w_C hw)]
  simp only [w_C hw, w_R0 hw, w_C1 hw, w_L1 hw, w_rp hw hn, k55 (w_cp hw hn), pw, h9, i0c, i0z, i0l, nI_add, h80, n_101, bq_s, mS_c, mS_l, mS_r, mS_i, mS_j, mS_pi, mS_pj, lt_st, bq_s, bV_s, bI_s, bJ_s, bA_s, nz_0, nc_0, nz_1, nc_1, nz_2, nc_2, nz_3, nc_3, nz_4, nc_4, nz_5, nc_5, nz_6, nc_6, nz_7, nc_7, nz_8, nc_8, nz_9, nc_9, nz_10, nc_10, nz_11, nc_11, nz_12, nc_12, if_true, if_false, eq_self, true_and, and_true, false_or, or_false, true_or, or_true, false_and, and_false, not_true, not_false_eq_true, ne_eq, ite_self, ite_not, ↓reduceIte, n_101, n_107, n_11]
  rfl
theorem new_c (hn : n < 12) (he : e < 18) : (∀ a, a ≠ w + 25 + e → a ≠ w → a ≠ w + 13 + n → newI I w n e x sort a = I a) ∧ (∀ f, f ≠ 9 → f ≠ 10 → newI I w n e x sort w f = I w f) ∧ newI I w n e x sort w 9 = nI (n + 1) ∧ newI I w n e x sort w 10 = nI (e + 1) ∧ newI I w n e x sort (w + 25 + e) 0 = sort ∧ newI I w n e x sort (w + 25 + e) 1 = nI n ∧ newI I w n e x sort (w + 25 + e) 2 = I w 8 ∧ ∀ f, f < 12 → newI I w n e x sort (w + 13 + n) f = peV x (I w 8) f := by
  obtain ⟨t1, t2, t3, t4, t5, t6⟩ := tell_c (I := wI (peI I (w + 13 + n) x (I w 8)) w 9 (nI (n + 1))) (w := w) (sort := sort) (x := nI n) he
  have pw : ∀ X Y, peI I (w + 13 + n) X Y w = I w := fun X Y => peI_n (by omega)
  unfold newI
  refine ⟨fun a h1 h2 h3 => ?_, fun f h1 h2 => ?_, ?_, t3, t4, t5, ?_, fun f hf => ?_⟩
  · rw [t1 a h1 h2, wI_F1 a h2, peI_n h3]
  · rw [t2 f h2, wI_nk h1, pw]
  · rw [t2 9 (by decide), wI_eq]
  · rw [t6, wI_nk (by decide), pw]
  · rw [t1 _ (by omega) (by omega), wI_ne (by omega), peI_e hf]
theorem okR_d (hW : WF s) : (s 1 < nI 12 ∧ s 2 < nI 18) = okR s := by
  have h12 := hW.nP.1
  have h18 := hW.nE.1
  rw [hW.nP.2, hW.nE.2, n_lt (by omega) (by decide), n_lt (by omega) (by decide)]
theorem okR_if {α : Type} {A B : α} (hW : WF s) : (if s 1 < nI 12 ∧ s 2 < nI 18 then A else B) = if okR s then A else B := by
  by_cases h : okR s
  · rw [if_pos h, if_pos (by rw [okR_d hW]; exact h)]
  · rw [if_neg h, if_neg (by rw [okR_d hW]; exact h)]
theorem coS_7 : coS s sort x y z 7 = s 7 := by
  unfold coS
  rw [evS_o (by decide) (by omega), rset_n (by decide)]
  unfold peS
  repeat rw [rset_n (by omega)]
theorem coS_56 (hR : okR s) : pF (coS s sort x y z) (nP s) 5 = m9 ∧ pF (coS s sort x y z) (nP s) 6 = m9 := by
  have h12 := hR.1
  have h18 := hR.2
  have hn : nE (rset (peS s (nP s) x y z (nI (nE s))) 1 (nI (nP s + 1))) = nE s := by
    unfold nE peS
    repeat rw [rset_n (by omega)]
  refine ⟨?_, ?_⟩
  · show coS s sort x y z (10 + 10 * nP s + 5) = _
    unfold coS
    rw [evS_o (by omega) (by rw [hn]; omega), rset_n (by omega)]
    unfold peS
    rw [rset_n (by omega), rset_n (by omega), rset_n (by omega), rset_n (by omega), rset_e]
  · show coS s sort x y z (10 + 10 * nP s + 6) = _
    unfold coS
    rw [evS_o (by omega) (by rw [hn]; omega), rset_n (by omega)]
    unfold peS
    rw [rset_n (by omega), rset_n (by omega), rset_n (by omega), rset_e]
theorem noNew (hW : WF s) (hR : okR s) (hx : Ext s s') (hP : nP s' = nP s + 1) (hE : nE s' = nE s + 1) (h : ¬ endAt s' (nP s) (nE s)) : ∀ e, e < nE s' → ¬ endAt s' (nP s) e := fun e he hh => by
  have h12 := hR.1
  by_cases h2 : e < nE s
  · have := endAt_lt hW h2 (by omega) ((hx.xen hW (by omega) h2).mp hh)
    omega
  · have : e = nE s := by omega
    subst this; exact h hh
/-- the first person, or a copy before settling, or a joined one before the rest -/
theorem k73 (hw : isW w) (hR : Rep I w s) (hW : WF s) : ∃ I', FW w I' I ∧ Rep I' w (tr_born s) ∧ am_cal (d + 4) 73 [.ref w] (mS I J) = some (some (.int (v_born s)), mS I' J) := by
  have h12 := hW.nP.1
  have h18 := hW.nE.1
  have h71 := k71 (d := d + 1) (J := J) hw hR
  rw [okR_if hW] at h71
  by_cases ho : okR s
  · have h9 : I w 9 = nI (nP s) := hR.ppl.trans hW.nP.2
    have h10 : I w 10 = nI (nE s) := hR.evs.trans hW.nE.2
    have h78 := k78 (d := d) (J := J) (x := nI 1) (sort := nI 0) hw ho.1 ho.2 h9 h10
    obtain ⟨t1, t2, t3, t4, t5, t6, t7, t8⟩ := new_c (I := I) (w := w) (x := nI 1) (sort := nI 0) ho.1 ho.2
    obtain ⟨⟨hx, hr, hP, e1, hEE, e2, v0, v1, v2, p4, p7, p9, p01⟩, pf, p0, p1, p2, p3, p8, _⟩ := coS_NF (sort := nI 0) (x := nI 1) (y := m9) (z := m9) hW ho
    have hWn := WF_born hW ho
    have ne : ∀ q, ¬ endAt (coS s (nI 0) (nI 1) m9 m9) q (nE s) := fun q => noend v0 (by decide) (by decide)
    refine ⟨newI I w (nP s) (nE s) (nI 1) (nI 0), fun a ha => t1 a (by omega) (by omega) (by omega), ?_, ?_⟩
    · unfold tr_born
      rw [if_pos ho]
      refine Rep_ev (s' := coS s (nI 0) (nI 1) m9 m9) hR hW hx hr (by omega) hEE ?_ (t3.trans e1.symm) (t4.trans e2.symm) (fun f a b => t2 f a b) (fun q hq f hf a b cc => by rw [t1 _ (by omega) (by omega) (by omega)]) (fun q hq => ?_) (fun q hq => ⟨fun h => absurd h (ne q), fun _ => by rw [t1 _ (by omega) (by omega) (by omega)]⟩) (fun q hq h => absurd h (ne q)) (fun q h1 h2 => ?_) (fun e he => t1 _ (by omega) (by omega) (by omega)) (fun f hf => ?_) (fun a ha => t1 a (by omega) (by omega) (by omega))
      · exact coS_7
      · rw [t1 _ (by omega) (by omega) (by omega), pf q 0 hq (by decide), pf q 7 hq (by decide)]
        exact ⟨hR.pF hq (by decide), hR.pF hq (by decide)⟩
      · have : q = nP s := by omega
        subst this
        have p56 := coS_56 (sort := nI 0) (x := nI 1) (y := m9) (z := m9) ho
        have day : I w 8 = s 0 := hR.day
        refine ⟨fun f hf => ?_, ?_, ?_, ?_, fun e he h => absurd h (noNew hW ho hx hP hEE (ne _) e he), fun _ => ?_⟩
        · rw [t8 f (by omega), day]
          rcases (show f = 0 ∨ f = 1 ∨ f = 2 ∨ f = 3 ∨ f = 4 ∨ f = 5 ∨ f = 6 ∨ f = 7 by omega) with rfl | rfl | rfl | rfl | rfl | rfl | rfl | rfl
          · exact p0.symm
          · exact p1.symm
          · exact p2.symm
          · exact p3.symm
          · exact p4.symm
          · exact p56.1.symm
          · exact p56.2.symm
          · exact p7.symm
        · rw [t8 9 (by decide)]; exact p8.symm
        · rw [t8 10 (by decide)]; exact (b2_f (fun h : isVd _ _ => by
            have := h.1; unfold isCp at this; rw [p1] at this; revert this; decide)).symm
        · rw [t8 11 (by decide)]; exact (b2_f (fun h : isRs _ _ => by
            have := h.1; rw [p1] at this; revert this; decide)).symm
        · rw [t8 8 (by decide)]; rfl
      · rcases (show f = 0 ∨ f = 1 ∨ f = 2 by omega) with rfl | rfl | rfl
        · rw [t5]; exact v0.symm
        · rw [t6]; exact v1.symm
        · rw [t7]; exact hR.day.trans v2.symm
    · unfold v_born
      rw [c_73 (w_C hw), h71, bI_s, if_pos ho, if_pos ho]
      simp only [h78, nn_0_1, nn_0_2, nn_0_3, nn_0_4, nn_0_5, nn_0_6, nn_0_7, nn_0_8, nn_1_0, nn_1_2, nn_1_3, nn_1_4, nn_1_5, nn_1_6, nn_1_7, nn_1_8, nn_2_0, nn_2_1, nn_2_3, nn_2_4, nn_2_5, nn_2_6, nn_2_7, nn_2_8, nn_3_0, nn_3_1, nn_3_2, nn_3_4, nn_3_5, nn_3_6, nn_3_7, nn_3_8, nn_4_0, nn_4_1, nn_4_2, nn_4_3, nn_4_5, nn_4_6, nn_4_7, nn_4_8, nn_5_0, nn_5_1, nn_5_2, nn_5_3, nn_5_4, nn_5_6, nn_5_7, nn_5_8, nn_6_0, nn_6_1, nn_6_2, nn_6_3, nn_6_4, nn_6_5, nn_6_7, nn_6_8, nn_7_0, nn_7_1, nn_7_2, nn_7_3, nn_7_4, nn_7_5, nn_7_6, nn_7_8, nn_8_0, nn_8_1, nn_8_2, nn_8_3, nn_8_4, nn_8_5, nn_8_6, nn_8_7, nq_0, nq_1, nq_2, nq_3, nq_4, nq_5, nq_6, nq_7, nq_8, bq_s, mS_c, mS_l, mS_r, mS_i, mS_j, mS_pi, mS_pj, lt_st, bq_s, bV_s, bI_s, bJ_s, bA_s, nz_0, nc_0, nz_1, nc_1, nz_2, nc_2, nz_3, nc_3, nz_4, nc_4, nz_5, nc_5, nz_6, nc_6, nz_7, nc_7, nz_8, nc_8, nz_9, nc_9, nz_10, nc_10, nz_11, nc_11, nz_12, nc_12, if_true, if_false, eq_self, true_and, and_true, false_or, or_false, true_or, or_true, false_and, and_false, not_true, not_false_eq_true, ne_eq, ite_self, ite_not, ↓reduceIte, n_101, n_107, n_11]
  · refine ⟨I, fun _ _ => rfl, ?_, ?_⟩
    · unfold tr_born
      rw [if_neg ho]; exact hR
    · unfold v_born
      rw [c_73 (w_C hw), h71, bI_s, if_neg ho, if_neg ho]
      rw [if_pos nI_0]
/-- a copy -/
def cuI (I : mI) (c : Nat) (x y z u : Int32) : mI := wI (wI (wI (wI I c 2 x) c 5 y) c 6 z) c 9 u
theorem cu_c : (∀ a, a ≠ c → cuI I c x y z u a = I a) ∧ (∀ f, f ≠ 2 → f ≠ 5 → f ≠ 6 → f ≠ 9 → cuI I c x y z u c f = I c f) ∧ cuI I c x y z u c 2 = x ∧ cuI I c x y z u c 5 = y ∧ cuI I c x y z u c 6 = z ∧ cuI I c x y z u c 9 = u := by
  unfold cuI
  refine ⟨fun a h => ?_, fun f a b cc dd => ?_, ?_, ?_, ?_, wI_eq⟩
  · rw [wI_F1 a h, wI_F1 a h, wI_F1 a h, wI_F1 a h]
  · rw [wI_nk dd, wI_nk cc, wI_nk b, wI_nk a]
  · rw [wI_nk (by decide), wI_nk (by decide), wI_nk (by decide), wI_eq]
  · rw [wI_nk (by decide), wI_nk (by decide), wI_eq]
  · rw [wI_nk (by decide), wI_eq]
theorem cpS_7 : cpS s x y z u v 7 = s 7 := by
  unfold cpS
  rw [rset_n (by omega), rset_n (by omega), rset_n (by omega)]
  exact coS_7
theorem k74 (hw : isW w) (hR : Rep I w s) (hW : WF s) (hp : p < nP s) (hk : okCp s (nI p) y z u) (ha : isAw s p) (hv : v = 0 ∨ v = 1) : ∃ I', FW w I' I ∧ Rep I' w (if okR s then cpS s (nI p) y z u v else s) ∧ am_cal (d + 6) 74 [.ref w, .int (nI p), .int y, .int z, .int u, .int v] (mS I J) = some (some (.int (if okR s then nI (nP s) else Int32.ofInt (-2))), mS I' J) := by
  have h12 := hW.nP.1
  have h18 := hW.nE.1
  have h71 := k71 (d := d + 3) (J := J) hw hR
  rw [okR_if hW] at h71
  by_cases ho : okR s
  · have h9 : I w 9 = nI (nP s) := hR.ppl.trans hW.nP.2
    have h10 : I w 10 = nI (nE s) := hR.evs.trans hW.nE.2
    have h78 := k78 (d := d + 2) (J := J) (x := y) (sort := nI 1) hw ho.1 ho.2 h9 h10
    obtain ⟨t1, t2, t3, t4, t5, t6, t7, t8⟩ := new_c (I := I) (w := w) (x := y) (sort := nI 1) ho.1 ho.2
    obtain ⟨⟨hx, hr, hP, e1, hEE, e2, v0, v1, v2, p4, p7, p9, p01⟩, pf, p0, p1, p2, p3, p5, p6, p8⟩ := cpS_NF (x := nI p) (y := y) (z := z) (u := u) (v := v) hW ho
    have hWn := WF_copy (v := v) hW ho hk hp ha
    have h7 : cpS s (nI p) y z u v 7 = s 7 := cpS_7
    have hcp : isCp (cpS s (nI p) y z u v) (nP s) := by unfold isCp; rw [p1]; exact hk.2.1
    have ne : ∀ q, ¬ endAt (cpS s (nI p) y z u v) q (nE s) := fun q => noend v0 (by decide) (by decide)
    have day : I w 8 = s 0 := hR.day
    generalize hI1 : newI I w (nP s) (nE s) y (nI 1) = I1 at t1 t2 t3 t4 t5 t6 t7 t8 h78
    generalize hs' : cpS s (nI p) y z u v = s' at *
    generalize hzz : (if y = nI 3 then z else nI 2) = zz at *
    obtain ⟨u1, u2, u3, u4, u5, u6⟩ := cu_c (I := I1) (c := w + 13 + nP s) (x := nI p) (y := u) (z := zz) (u := v)
    generalize hI2 : cuI I1 (w + 13 + nP s) (nI p) u zz v = I2 at u1 u2 u3 u4 u5 u6
    have hL2 : RepL I2 (w + 7) s' := sL_R hx.2.2.2.2 (hR.L.fr fun a h1 h2 => by rw [u1 a (by omega), t1 a (by omega) (by omega) (by omega)])
    have hf2 : ∀ f, f < 8 → I2 (w + 13 + nP s) f = pF s' (nP s) f := fun f hf => by
      rcases (show f = 0 ∨ f = 1 ∨ f = 2 ∨ f = 3 ∨ f = 4 ∨ f = 5 ∨ f = 6 ∨ f = 7 by omega) with rfl | rfl | rfl | rfl | rfl | rfl | rfl | rfl
      · rw [u2 0 (by decide) (by decide) (by decide) (by decide), t8 0 (by decide)]; exact p0.symm
      · rw [u2 1 (by decide) (by decide) (by decide) (by decide), t8 1 (by decide)]; exact p1.symm
      · rw [u3]; exact p2.symm
      · rw [u2 3 (by decide) (by decide) (by decide) (by decide), t8 3 (by decide)]; exact p3.symm
      · rw [u2 4 (by decide) (by decide) (by decide) (by decide), t8 4 (by decide)]; exact day.trans p4.symm
      · rw [u4]; exact p5.symm
      · rw [u5]; exact p6.symm
      · rw [u2 7 (by decide) (by decide) (by decide) (by decide), t8 7 (by decide)]; exact p7.symm
    have hf9 : I2 (w + 13 + nP s) 9 = pF s' (nP s) 8 := by
      rw [u6, p8]
      rcases hv with rfl | rfl
      · rfl
      · rfl
    obtain ⟨I3, g1, g2, g3, _, h85⟩ := k85 (d := d) (J := J) hw hWn hL2 (show nP s < nP s' by omega) hf2 hf9
    have o3 : ∀ a, a ≠ w + 12 → a ≠ w + 13 + nP s → a ≠ w → a ≠ w + 25 + nE s → I3 a = I a := fun a b cc dd ee => by rw [g1 a b cc, u1 a cc, t1 a ee dd cc]
    have ow : I3 w = I1 w := by rw [g1 w (by omega) (by omega), u1 w (by omega)]
    have oe : I3 (w + 25 + nE s) = I1 (w + 25 + nE s) := by rw [g1 _ (by omega) (by omega), u1 _ (by omega)]
    refine ⟨I3, fun a ha => o3 a (by omega) (by omega) (by omega) (by omega), ?_, ?_⟩
    · rw [if_pos ho]
      refine Rep_ev (s' := s') hR hW hx hr (by omega) hEE h7 ?_ ?_ (fun f a b => ?_) (fun q hq f hf a b cc => ?_) (fun q hq => ?_) (fun q hq => ⟨fun h => absurd h (ne q), fun _ => ?_⟩) (fun q hq h => absurd h (ne q)) (fun q h1 h2 => ?_) (fun e he => ?_) (fun f hf => ?_) (fun a ha => ?_)
      · rw [ow, t3]; exact e1.symm
      · rw [ow, t4]; exact e2.symm
      · rw [ow]; exact t2 f a b
      · rw [o3 _ (by omega) (by omega) (by omega) (by omega)]
      · rw [o3 _ (by omega) (by omega) (by omega) (by omega), pf q 0 (by omega) (by decide), pf q 7 (by omega) (by decide)]
        exact ⟨hR.pF hq (by decide), hR.pF hq (by decide)⟩
      · rw [o3 _ (by omega) (by omega) (by omega) (by omega)]
      · have : q = nP s := by omega
        subst this
        refine ⟨fun f hf => ?_, ?_, (g3 hcp).1, (g3 hcp).2, fun e he h => absurd h (noNew hW ho hx hP hEE (ne _) e he), fun _ => ?_⟩
        · rw [g2 f (by omega) (by omega)]; exact hf2 f hf
        · rw [g2 9 (by decide) (by decide)]; exact hf9
        · rw [g2 8 (by decide) (by decide), u2 8 (by decide) (by decide) (by decide) (by decide), t8 8 (by decide)]; rfl
      · exact o3 _ (by omega) (by omega) (by omega) (by omega)
      · rw [oe]
        rcases (show f = 0 ∨ f = 1 ∨ f = 2 by omega) with rfl | rfl | rfl
        · rw [t5]; exact v0.symm
        · rw [t6]; exact v1.symm
        · rw [t7]; exact day.trans v2.symm
      · exact o3 a (by omega) (by omega) (by omega) (by omega)
    · have hn12 : nP s < 12 := ho.1
      have i0c : (nI (nP s)).toNatClampNeg = nP s := nI_clamp (by omega)
      have i0z : (nI (nP s) < 0) = False := n_ge0 (by omega)
      have i0l : (12 ≤ nP s) = False := n_lef (by omega)
      rw [c_74 (w_C hw), h71, bI_s, if_pos ho, if_pos ho, if_neg (show ¬ nI 1 = (0 : Int32) by decide), h78, bI_s]
      unfold cuI at hI2
      by_cases hy3 : y = nI 3
      · rw [if_pos hy3] at hzz
        subst hzz
        simp only [w_C hw, w_R0 hw, w_C1 hw, w_L1 hw, w_rp hw hn12, w_cp hw hn12, i0c, i0z, i0l, hy3, hv, hI2, h85, n_101, nn_0_1, nn_0_2, nn_0_3, nn_0_4, nn_0_5, nn_0_6, nn_0_7, nn_0_8, nn_1_0, nn_1_2, nn_1_3, nn_1_4, nn_1_5, nn_1_6, nn_1_7, nn_1_8, nn_2_0, nn_2_1, nn_2_3, nn_2_4, nn_2_5, nn_2_6, nn_2_7, nn_2_8, nn_3_0, nn_3_1, nn_3_2, nn_3_4, nn_3_5, nn_3_6, nn_3_7, nn_3_8, nn_4_0, nn_4_1, nn_4_2, nn_4_3, nn_4_5, nn_4_6, nn_4_7, nn_4_8, nn_5_0, nn_5_1, nn_5_2, nn_5_3, nn_5_4, nn_5_6, nn_5_7, nn_5_8, nn_6_0, nn_6_1, nn_6_2, nn_6_3, nn_6_4, nn_6_5, nn_6_7, nn_6_8, nn_7_0, nn_7_1, nn_7_2, nn_7_3, nn_7_4, nn_7_5, nn_7_6, nn_7_8, nn_8_0, nn_8_1, nn_8_2, nn_8_3, nn_8_4, nn_8_5, nn_8_6, nn_8_7, nq_0, nq_1, nq_2, nq_3, nq_4, nq_5, nq_6, nq_7, nq_8, bq_s, mS_c, mS_l, mS_r, mS_i, mS_j, mS_pi, mS_pj, lt_st, bq_s, bV_s, bI_s, bJ_s, bA_s, nz_0, nc_0, nz_1, nc_1, nz_2, nc_2, nz_3, nc_3, nz_4, nc_4, nz_5, nc_5, nz_6, nc_6, nz_7, nc_7, nz_8, nc_8, nz_9, nc_9, nz_10, nc_10, nz_11, nc_11, nz_12, nc_12, if_true, if_false, eq_self, true_and, and_true, false_or, or_false, true_or, or_true, false_and, and_false, not_true, not_false_eq_true, ne_eq, ite_self, ite_not, ↓reduceIte, n_101, n_107, n_11]
      · rw [if_neg hy3] at hzz
        subst hzz
        simp only [w_C hw, w_R0 hw, w_C1 hw, w_L1 hw, w_rp hw hn12, w_cp hw hn12, i0c, i0z, i0l, hy3, hv, hI2, h85, n_101, nn_0_1, nn_0_2, nn_0_3, nn_0_4, nn_0_5, nn_0_6, nn_0_7, nn_0_8, nn_1_0, nn_1_2, nn_1_3, nn_1_4, nn_1_5, nn_1_6, nn_1_7, nn_1_8, nn_2_0, nn_2_1, nn_2_3, nn_2_4, nn_2_5, nn_2_6, nn_2_7, nn_2_8, nn_3_0, nn_3_1, nn_3_2, nn_3_4, nn_3_5, nn_3_6, nn_3_7, nn_3_8, nn_4_0, nn_4_1, nn_4_2, nn_4_3, nn_4_5, nn_4_6, nn_4_7, nn_4_8, nn_5_0, nn_5_1, nn_5_2, nn_5_3, nn_5_4, nn_5_6, nn_5_7, nn_5_8, nn_6_0, nn_6_1, nn_6_2, nn_6_3, nn_6_4, nn_6_5, nn_6_7, nn_6_8, nn_7_0, nn_7_1, nn_7_2, nn_7_3, nn_7_4, nn_7_5, nn_7_6, nn_7_8, nn_8_0, nn_8_1, nn_8_2, nn_8_3, nn_8_4, nn_8_5, nn_8_6, nn_8_7, nq_0, nq_1, nq_2, nq_3, nq_4, nq_5, nq_6, nq_7, nq_8, bq_s, mS_c, mS_l, mS_r, mS_i, mS_j, mS_pi, mS_pj, lt_st, bq_s, bV_s, bI_s, bJ_s, bA_s, nz_0, nc_0, nz_1, nc_1, nz_2, nc_2, nz_3, nc_3, nz_4, nc_4, nz_5, nc_5, nz_6, nc_6, nz_7, nc_7, nz_8, nc_8, nz_9, nc_9, nz_10, nc_10, nz_11, nc_11, nz_12, nc_12, if_true, if_false, eq_self, true_and, and_true, false_or, or_false, true_or, or_true, false_and, and_false, not_true, not_false_eq_true, ne_eq, ite_self, ite_not, ↓reduceIte, n_101, n_107, n_11]
  · refine ⟨I, fun _ _ => rfl, ?_, ?_⟩
    · rw [if_neg ho]; exact hR
    · rw [c_74 (w_C hw), h71, bI_s, if_neg ho, if_neg ho, if_pos nI_0]
end G3s
