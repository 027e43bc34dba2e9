/-! ===== the class writes: events; what a world then says ===== -/
def tellI (I : mI) (w e : Nat) (sort x : Int32) : mI := wI (wI (wI (wI I (w + 25 + e) 0 sort) (w + 25 + e) 1 x) (w + 25 + e) 2 (I w 8)) w 10 (nI (e + 1))
section G1s
variable {I I' : mI} {J : mJ} {s s' : Rw} {w p q e c d k n g : Nat} {x y z u v sort : Int32}
/-- outside the world nothing differs -/
abbrev FW (w : Nat) (I' I : mI) : Prop := ∀ a, (a < w ∨ w + 63 ≤ a) → I' a = I a
theorem tell_c (hk : e < 18) : (∀ a, a ≠ w + 25 + e → a ≠ w → tellI I w e sort x a = I a) ∧ (∀ f, f ≠ 10 → tellI I w e sort x w f = I w f) ∧ tellI I w e sort x w 10 = nI (e + 1) ∧ tellI I w e sort x (w + 25 + e) 0 = sort ∧ tellI I w e sort x (w + 25 + e) 1 = x ∧ tellI I w e sort x (w + 25 + e) 2 = I w 8 := by
  refine ⟨fun a h1 h2 => ?_, fun f hf => ?_, wI_eq, ?_, ?_, ?_⟩
  · unfold tellI
    rw [wI_F1 a h2, wI_F1 a h1, wI_F1 a h1, wI_F1 a h1]
  · unfold tellI
    rw [wI_nk hf, wI_ne (by omega), wI_ne (by omega), wI_ne (by omega)]
  · unfold tellI
    rw [wI_ne (by omega), wI_nk (by decide), wI_nk (by decide), wI_eq]
  · unfold tellI
    rw [wI_ne (by omega), wI_nk (by decide), wI_eq]
  · unfold tellI
    rw [wI_ne (by omega), wI_eq]
theorem k80 (hw : isW w) (he : e < 18) (h10 : I w 10 = nI e) : am_cal (d + 2) 80 [.ref w, .int sort, .int x] (mS I J) = some (none, mS (tellI I w e sort x) J) := by
  have i0c : (nI (e)).toNatClampNeg = e := nI_clamp (by omega)
  have i0z : (nI (e) < 0) = False := n_ge0 (by omega)
  have i0l : (18 ≤ e) = False := n_lef (by omega)
  have w8 : ∀ (I1 : mI) (f : Nat) (v : Int32), wI I1 (w + 25 + e) f v w = I1 w := fun I1 f v => wI_F1 w (by omega)
  rw [c_80 (w_C hw)]
  simp only [w_C hw, w_R1 hw, w_C2 hw, w_L2 hw, w_re hw he, h10, i0c, i0z, i0l, n_107, bq_s, mS_c, mS_l, mS_r, mS_i, mS_j, mS_pi, mS_pj, lt_st, bq_s, bV_s, bI_s, bJ_s, bA_s, nz_0, nc_0, nz_1, nc_1, nz_2, nc_2, nz_3, nc_3, nz_4, nc_4, nz_5, nc_5, nz_6, nc_6, nz_7, nc_7, nz_8, nc_8, nz_9, nc_9, nz_10, nc_10, nz_11, nc_11, nz_12, nc_12, if_true, if_false, eq_self, true_and, and_true, false_or, or_false, true_or, or_true, false_and, and_false, not_true, not_false_eq_true, ne_eq, ite_self, ite_not, ↓reduceIte, n_101, n_107, n_11]
  rw [c_8 (w_ce hw he)]
  simp only [w_ce hw he, w_C hw, w8, h10, nI_add, bq_s, mS_c, mS_l, mS_r, mS_i, mS_j, mS_pi, mS_pj, lt_st, bq_s, bV_s, bI_s, bJ_s, bA_s, nz_0, nc_0, nz_1, nc_1, nz_2, nc_2, nz_3, nc_3, nz_4, nc_4, nz_5, nc_5, nz_6, nc_6, nz_7, nc_7, nz_8, nc_8, nz_9, nc_9, nz_10, nc_10, nz_11, nc_11, nz_12, nc_12, if_true, if_false, eq_self, true_and, and_true, false_or, or_false, true_or, or_true, false_and, and_false, not_true, not_false_eq_true, ne_eq, ite_self, ite_not, ↓reduceIte, n_101, n_107, n_11]
  rfl
/-- one event more, as a world tells it -/
theorem Rep_ev (hR : Rep I w s) (hW : WF s) (hx : Ext s s') (hr : sameR s s') (h12' : nP s' ≤ 12) (hE : nE s' = nE s + 1) (h7 : s' 7 = s 7)
    (c9 : I' w 9 = s' 1) (c10 : I' w 10 = s' 2) (cO : ∀ f, f ≠ 9 → f ≠ 10 → I' w f = I w f)
    (pO : ∀ p, p < nP s → ∀ f, f < 12 → f ≠ 0 → f ≠ 7 → f ≠ 8 → I' (w + 13 + p) f = I (w + 13 + p) f)
    (p0 : ∀ p, p < nP s → I' (w + 13 + p) 0 = pF s' p 0 ∧ I' (w + 13 + p) 7 = pF s' p 7)
    (p8 : ∀ p, p < nP s → (endAt s' p (nE s) → I' (w + 13 + p) 8 = nI (nE s)) ∧ (¬ endAt s' p (nE s) → I' (w + 13 + p) 8 = I (w + 13 + p) 8))
    (hu : ∀ p, p < nP s → endAt s' p (nE s) → ¬ pF s p 0 = nI 6)
    (pn : ∀ p, nP s ≤ p → p < nP s' → RepP I' w s' p)
    (eO : ∀ e, e < nE s → I' (w + 25 + e) = I (w + 25 + e)) (en : ∀ f, f < 3 → I' (w + 25 + nE s) f = eF s' (nE s) f)
    (cc : ∀ a, (w + 43 ≤ a ∧ a < w + 63) ∨ (w + 5 ≤ a ∧ a < w + 12) → I' a = I a) : Rep I' w s' := by
  have h12 := hW.nP.1
  have h18 := hW.nE.1
  have hc12 := hW.nC.1
  have h8 := hW.nW.1
  have h10 := hW.nD.1
  have hnC : nC s' = nC s := by unfold nC; rw [hr.2.1]
  have hnD : nD s' = nD s := by unfold nD; rw [hr.2.2.1]
  have hnW : nW s' = nW s := by unfold nW; rw [hr.2.2.2.1]
  refine ⟨⟨by rw [cO 8 (by decide) (by decide), hr.1]; exact hR.day, c9, c10, by rw [cO 11 (by decide) (by decide), hr.2.1]; exact hR.cls, by rw [cO 13 (by decide) (by decide), hr.2.2.1]; exact hR.dds, by rw [cO 12 (by decide) (by decide), hr.2.2.2.1]; exact hR.wds, ?_⟩, fun p hp => ?_, fun e he f hf => ?_, fun c hc f hf => ?_, fun k hk f hf => ?_, fun d hd => ?_, ?_⟩
  · rw [cO 14 (by decide) (by decide), h7]; exact hR.zed
  · by_cases hp2 : p < nP s
    · have hv := hx.xvd hW hp2
      refine ⟨fun f hf => ?_, ?_, ?_, ?_, fun e he hend => ?_, fun hall => ?_⟩
      · by_cases f0 : f = 0
        · subst f0; exact (p0 p hp2).1
        · by_cases f7 : f = 7
          · subst f7; exact (p0 p hp2).2
          · rw [pO p hp2 f (by omega) f0 f7 (by omega), hR.pF hp2 hf, hx.xpp hp2 (by omega) (by omega) f7]
      · rw [pO p hp2 9 (by decide) (by decide) (by decide) (by decide), hR.lv hp2, hx.xpp hp2 (by decide) (by decide) (by decide)]
      · rw [pO p hp2 10 (by decide) (by decide) (by decide) (by decide), hR.vd hp2, b2_iff hv.1]
      · rw [pO p hp2 11 (by decide) (by decide) (by decide) (by decide), hR.rs hp2, b2_iff hv.2]
      · by_cases hh : e < nE s
        · have hend' := (hx.xen hW h12' hh).mp hend
          have hne : ¬ endAt s' p (nE s) := fun h => hu p hp2 h (ended6 hW hp2 hh hend')
          rw [(p8 p hp2).2 hne]
          exact (hR.2.1 p hp2).2.2.2.2.1 e hh hend'
        · have : e = nE s := by omega
          subst this
          exact (p8 p hp2).1 hend
      · rw [(p8 p hp2).2 (hall (nE s) (by omega))]
        exact (hR.2.1 p hp2).2.2.2.2.2 fun e he h => hall e (by omega) ((hx.xen hW h12' he).mpr h)
    · exact pn p (by omega) hp
  · by_cases hh : e < nE s
    · rw [eO e hh, hx.xee hh hf]; exact hR.eF hh hf
    · have : e = nE s := by omega
      subst this; exact en f hf
  · rw [hnC] at hc
    rw [cc (w + 43 + c) (Or.inl (by omega)), sR_c hr (by omega) hf]; exact hR.cF hc hf
  · rw [hnW] at hk
    rw [cc (w + 55 + k) (Or.inl (by omega)), sR_w hr (by omega) hf]; exact hR.wF hk hf
  · rw [hnD] at hd
    rw [cc (w + 5) (Or.inr (by omega)), cc (w + 6) (Or.inr (by omega)), sR_d hr (by omega) (by decide), sR_d hr (by omega) (by decide)]
    exact ⟨hR.d0 hd, hR.d1 hd⟩
  · exact sL_R hx.2.2.2.2 (hR.L.fr fun a h1 h2 => cc a (Or.inr (by omega)))
theorem kev_7 : evS (rset s (10 + 10 * p) y) sort x 7 = s 7 := by rw [evS_o (by decide) (by omega), rset_n (by omega)]
/-- he wakes -/
theorem k76 (hw : isW w) (hR : Rep I w s) (hW : WF s) (hp : p < nP s) (h5 : pF s p 0 = nI 5) : ∃ I', FW w I' I ∧ Rep I' w (if nE s < 18 then wkS s p else s) ∧ am_cal (d + 3) 76 [.ref w, .int (nI p)] (mS I J) = some (some (.int (if nE s < 18 then nI 1 else Int32.ofInt (-2))), mS I' J) := by
  have h12 := hW.nP.1
  have h18 := hW.nE.1
  have i0c : (nI (p)).toNatClampNeg = p := nI_clamp (by omega)
  have i0z : (nI (p) < 0) = False := n_ge0 (by omega)
  have i0l : (12 ≤ p) = False := n_lef (by omega)
  have e18 : (s 2 < nI 18) = (nE s < 18) := by rw [hW.nE.2, n_lt (by omega) (by decide)]
  have h72 := k72 (d := d + 1) (J := J) hw hR
  by_cases hE : nE s < 18
  · have h10 : I w 10 = nI (nE s) := hR.evs.trans hW.nE.2
    have a1 : ∀ v, wI I (w + 13 + p) 0 v w = I w := fun v => wI_F1 w (by omega)
    have h80 := k80 (d := d) (J := J) (I := wI I (w + 13 + p) 0 (nI 2)) (e := nE s) (sort := nI 2) (x := nI p) hw hE (by rw [a1]; exact h10)
    obtain ⟨t1, t2, t3, t4, t5, t6⟩ := tell_c (I := wI I (w + 13 + p) 0 (nI 2)) (w := w) (sort := nI 2) (x := nI p) hE
    obtain ⟨hx, hr, hP, hEE, e1, e2, pf, k0, v0, v1, v2⟩ := kev_Ext (y := nI 2) (sort := nI 2) (x := nI p) hW hp hE
    refine ⟨tellI (wI I (w + 13 + p) 0 (nI 2)) w (nE s) (nI 2) (nI p), fun a ha => ?_, ?_, ?_⟩
    rotate_left 2
    · rw [c_76 (w_C hw), h72, bI_s, if_pos hE]
      simp only [e18, hE, w_C hw, w_R0 hw, w_C1 hw, w_L1 hw, w_rp hw (show p < 12 by omega), w_cp hw (show p < 12 by omega), i0c, i0z, i0l, h80, n_101, nn_0_1, nn_0_2, nn_0_3, nn_0_4, nn_0_5, nn_0_6, nn_0_7, nn_0_8, nn_1_0, nn_1_2, nn_1_3, nn_1_4, nn_1_5, nn_1_6, nn_1_7, nn_1_8, nn_2_0, nn_2_1, nn_2_3, nn_2_4, nn_2_5, nn_2_6, nn_2_7, nn_2_8, nn_3_0, nn_3_1, nn_3_2, nn_3_4, nn_3_5, nn_3_6, nn_3_7, nn_3_8, nn_4_0, nn_4_1, nn_4_2, nn_4_3, nn_4_5, nn_4_6, nn_4_7, nn_4_8, nn_5_0, nn_5_1, nn_5_2, nn_5_3, nn_5_4, nn_5_6, nn_5_7, nn_5_8, nn_6_0, nn_6_1, nn_6_2, nn_6_3, nn_6_4, nn_6_5, nn_6_7, nn_6_8, nn_7_0, nn_7_1, nn_7_2, nn_7_3, nn_7_4, nn_7_5, nn_7_6, nn_7_8, nn_8_0, nn_8_1, nn_8_2, nn_8_3, nn_8_4, nn_8_5, nn_8_6, nn_8_7, nq_0, nq_1, nq_2, nq_3, nq_4, nq_5, nq_6, nq_7, nq_8, bq_s, mS_c, mS_l, mS_r, mS_i, mS_j, mS_pi, mS_pj, lt_st, bq_s, bV_s, bI_s, bJ_s, bA_s, nz_0, nc_0, nz_1, nc_1, nz_2, nc_2, nz_3, nc_3, nz_4, nc_4, nz_5, nc_5, nz_6, nc_6, nz_7, nc_7, nz_8, nc_8, nz_9, nc_9, nz_10, nc_10, nz_11, nc_11, nz_12, nc_12, if_true, if_false, eq_self, true_and, and_true, false_or, or_false, true_or, or_true, false_and, and_false, not_true, not_false_eq_true, ne_eq, ite_self, ite_not, ↓reduceIte, n_101, n_107, n_11]
    · rw [t1 a (by omega) (by omega), wI_F1 a (by omega)]
    · rw [if_pos hE]
      show Rep _ w (evS (rset s (10 + 10 * p) (nI 2)) (nI 2) (nI p))
      refine Rep_ev hR hW hx hr (by rw [hP]; exact h12) hEE kev_7 ?_ ?_ (fun f a b => ?_) (fun q hq f hf a b cc => ?_) (fun q hq => ?_) (fun q hq => ⟨fun h => ?_, fun _ => ?_⟩) (fun q hq h => ?_) (fun q h1 h2 => by rw [hP] at h2; omega) (fun e he => ?_) (fun f hf => ?_) (fun a ha => ?_)
      · rw [t2 9 (by decide), a1]; exact hR.ppl.trans e1.symm
      · rw [t3]; exact e2.symm
      · rw [t2 f b, a1]
      · rw [t1 (w + 13 + q) (by omega) (by omega)]
        by_cases hqp : q = p
        · subst hqp; exact wI_nk a
        · exact wI_ne (by omega)
      · rw [t1 (w + 13 + q) (by omega) (by omega)]
        by_cases hqp : q = p
        · subst hqp
          rw [wI_eq, wI_nk (by decide)]
          exact ⟨k0.symm, by rw [hR.pF hq (by decide)]; exact (pf q 7 (by omega) (by decide) (by omega)).symm⟩
        · rw [wI_ne (by omega), wI_ne (by omega), hR.pF hq (by decide), hR.pF hq (by decide)]
          exact ⟨(pf q 0 (by omega) (by decide) (by omega)).symm, (pf q 7 (by omega) (by decide) (by omega)).symm⟩
      · exact absurd h (noend v0 (by decide) (by decide))
      · rw [t1 (w + 13 + q) (by omega) (by omega)]
        by_cases hqp : q = p
        · subst hqp; exact wI_nk (by decide)
        · exact wI_ne (by omega)
      · exact absurd h (noend v0 (by decide) (by decide))
      · rw [t1 (w + 25 + e) (by omega) (by omega), wI_F1 (w + 25 + e) (by omega)]
      · rcases (show f = 0 ∨ f = 1 ∨ f = 2 by omega) with rfl | rfl | rfl
        · rw [t4]; exact v0.symm
        · rw [t5]; exact v1.symm
        · rw [t6, a1]; exact hR.day.trans v2.symm
      · rw [t1 a (by omega) (by omega), wI_F1 a (by omega)]
  · refine ⟨I, fun _ _ => rfl, by rw [if_neg hE]; exact hR, ?_⟩
    rw [c_76 (w_C hw), h72, bI_s, if_neg hE]
    simp only [e18, hE, nn_0_1, nn_0_2, nn_0_3, nn_0_4, nn_0_5, nn_0_6, nn_0_7, nn_0_8, nn_1_0, nn_1_2, nn_1_3, nn_1_4, nn_1_5, nn_1_6, nn_1_7, nn_1_8, nn_2_0, nn_2_1, nn_2_3, nn_2_4, nn_2_5, nn_2_6, nn_2_7, nn_2_8, nn_3_0, nn_3_1, nn_3_2, nn_3_4, nn_3_5, nn_3_6, nn_3_7, nn_3_8, nn_4_0, nn_4_1, nn_4_2, nn_4_3, nn_4_5, nn_4_6, nn_4_7, nn_4_8, nn_5_0, nn_5_1, nn_5_2, nn_5_3, nn_5_4, nn_5_6, nn_5_7, nn_5_8, nn_6_0, nn_6_1, nn_6_2, nn_6_3, nn_6_4, nn_6_5, nn_6_7, nn_6_8, nn_7_0, nn_7_1, nn_7_2, nn_7_3, nn_7_4, nn_7_5, nn_7_6, nn_7_8, nn_8_0, nn_8_1, nn_8_2, nn_8_3, nn_8_4, nn_8_5, nn_8_6, nn_8_7, nq_0, nq_1, nq_2, nq_3, nq_4, nq_5, nq_6, nq_7, nq_8, bq_s, mS_c, mS_l, mS_r, mS_i, mS_j, mS_pi, mS_pj, lt_st, bq_s, bV_s, bI_s, bJ_s, bA_s, nz_0, nc_0, nz_1, nc_1, nz_2, nc_2, nz_3, nc_3, nz_4, nc_4, nz_5, nc_5, nz_6, nc_6, nz_7, nc_7, nz_8, nc_8, nz_9, nc_9, nz_10, nc_10, nz_11, nc_11, nz_12, nc_12, if_true, if_false, eq_self, true_and, and_true, false_or, or_false, true_or, or_true, false_and, and_false, not_true, not_false_eq_true, ne_eq, ite_self, ite_not, ↓reduceIte, n_101, n_107, n_11]
/-- he goes away -/
def goI (I : mI) (w p : Nat) (into u : Int32) : mI := wI (wI (wI I (w + 13 + p) 0 (nI 6)) (w + 13 + p) 7 into) (w + 13 + p) 8 u
theorem go_c : (∀ a, a ≠ w + 13 + p → goI I w p x u a = I a) ∧ (∀ f, f ≠ 0 → f ≠ 7 → f ≠ 8 → goI I w p x u (w + 13 + p) f = I (w + 13 + p) f) ∧ goI I w p x u (w + 13 + p) 0 = nI 6 ∧ goI I w p x u (w + 13 + p) 7 = x ∧ goI I w p x u (w + 13 + p) 8 = u := by
  refine ⟨fun a ha => ?_, fun f a b cc => ?_, ?_, ?_, wI_eq⟩
  · unfold goI
    rw [wI_F1 a ha, wI_F1 a ha, wI_F1 a ha]
  · unfold goI
    rw [wI_nk cc, wI_nk b, wI_nk a]
  · unfold goI
    rw [wI_nk (by decide), wI_nk (by decide), wI_eq]
  · unfold goI
    rw [wI_nk (by decide), wI_eq]
theorem k79 (hw : isW w) (hp : p < 12) : am_cal (d + 1) 79 [.ref w, .int (nI p), .int x] (mS I J) = some (none, mS (goI I w p x (I w 10)) J) := by
  have i0c : (nI (p)).toNatClampNeg = p := nI_clamp (by omega)
  have i0z : (nI (p) < 0) = False := n_ge0 (by omega)
  have i0l : (12 ≤ p) = False := n_lef (by omega)
  have w8 : ∀ (I1 : mI) (f : Nat) (v : Int32), wI I1 (w + 13 + p) f v w = I1 w := fun I1 f v => wI_F1 w (by omega)
  rw [c_79 (w_C hw)]
  simp only [w_C hw, w_R0 hw, w_C1 hw, w_L1 hw, w_rp hw hp, w_cp hw hp, i0c, i0z, i0l, w8, n_101, bq_s, mS_c, mS_l, mS_r, mS_i, mS_j, mS_pi, mS_pj, lt_st, bq_s, bV_s, bI_s, bJ_s, bA_s, nz_0, nc_0, nz_1, nc_1, nz_2, nc_2, nz_3, nc_3, nz_4, nc_4, nz_5, nc_5, nz_6, nc_6, nz_7, nc_7, nz_8, nc_8, nz_9, nc_9, nz_10, nc_10, nz_11, nc_11, nz_12, nc_12, if_true, if_false, eq_self, true_and, and_true, false_or, or_false, true_or, or_true, false_and, and_false, not_true, not_false_eq_true, ne_eq, ite_self, ite_not, ↓reduceIte, n_101, n_107, n_11]
  rfl
/-- he ends -/
theorem k77 (hw : isW w) (hR : Rep I w s) (hW : WF s) (hp : p < nP s) (h6 : ¬ pF s p 0 = nI 6) : ∃ I', FW w I' I ∧ Rep I' w (if nE s < 18 then enS s p else s) ∧ am_cal (d + 3) 77 [.ref w, .int (nI p)] (mS I J) = some (some (.int (if nE s < 18 then nI (awk (enS s p)) else Int32.ofInt (-2))), mS I' J) := by
  have h12 := hW.nP.1
  have h18 := hW.nE.1
  have e18 : (s 2 < nI 18) = (nE s < 18) := by rw [hW.nE.2, n_lt (by omega) (by decide)]
  have h72 := k72 (d := d + 1) (J := J) hw hR
  by_cases hE : nE s < 18
  · have h10 : I w 10 = nI (nE s) := hR.evs.trans hW.nE.2
    have h79 := k79 (d := d + 1) (I := I) (J := J) (x := m9) hw (show p < 12 by omega)
    rw [h10] at h79
    obtain ⟨g1, g2, g3, g4, g5⟩ := go_c (I := I) (w := w) (p := p) (x := m9) (u := nI (nE s))
    have gw := g1 w (by omega)
    have h80 := k80 (d := d) (J := J) (I := goI I w p m9 (nI (nE s))) (e := nE s) (sort := nI 4) (x := nI p) hw hE (by rw [gw]; exact h10)
    obtain ⟨t1, t2, t3, t4, t5, t6⟩ := tell_c (I := goI I w p m9 (nI (nE s))) (w := w) (sort := nI 4) (x := nI p) hE
    obtain ⟨hx, hr, hP, hEE, e1, e2, pf, k0, v0, v1, v2⟩ := kev_Ext (y := nI 6) (sort := nI 4) (x := nI p) hW hp hE
    have k7 : pF s p 7 = m9 := by
      rcases (wfP_d (hW.per hp)).2.1 with h | ⟨h, _⟩
      · exact h
      · exact absurd h h6
    have hWn := WF_end hW hp h6 hE
    have hend : ∀ q, q < 12 → (endAt (enS s p) q (nE s) ↔ q = p) := fun q hq => by
      refine ⟨fun h => ?_, fun h => Or.inl ⟨v0, by rw [h]; exact v1⟩⟩
      rcases h with ⟨_, h⟩ | ⟨h, _⟩
      · exact (nI_eq (by omega) (by omega)).mp (h.symm.trans v1)
      · exact absurd (h.symm.trans v0) (by decide)
    have hRn : Rep (tellI (goI I w p m9 (nI (nE s))) w (nE s) (nI 4) (nI p)) w (enS s p) := by
      refine Rep_ev (s' := enS s p) hR hW hx hr (Nat.le_trans (Nat.le_of_eq hP) h12) hEE kev_7 ?_ ?_ (fun f a b => ?_) (fun q hq f hf a b cc => ?_) (fun q hq => ?_) (fun q hq => ⟨fun h => ?_, fun h => ?_⟩) (fun q hq h => ?_) (fun q h1 h2 => absurd (Nat.lt_of_lt_of_eq h2 hP) (by omega)) (fun e he => ?_) (fun f hf => ?_) (fun a ha => ?_)
      · rw [t2 9 (by decide), gw]; exact hR.ppl.trans e1.symm
      · rw [t3]; exact e2.symm
      · rw [t2 f b, gw]
      · rw [t1 (w + 13 + q) (by omega) (by omega)]
        by_cases hqp : q = p
        · subst hqp; exact g2 f a b cc
        · rw [g1 _ (by omega)]
      · rw [t1 (w + 13 + q) (by omega) (by omega)]
        by_cases hqp : q = p
        · subst hqp
          rw [g3, g4]
          exact ⟨k0.symm, (k7.symm.trans (pf q 7 (by omega) (by decide) (by omega)).symm)⟩
        · rw [g1 _ (by omega), hR.pF hq (by decide), hR.pF hq (by decide)]
          exact ⟨(pf q 0 (by omega) (by decide) (by omega)).symm, (pf q 7 (by omega) (by decide) (by omega)).symm⟩
      · have := (hend q (by omega)).mp h
        subst this
        rw [t1 (w + 13 + q) (by omega) (by omega), g5]
      · rw [t1 (w + 13 + q) (by omega) (by omega)]
        by_cases hqp : q = p
        · exact absurd ((hend q (by omega)).mpr hqp) h
        · rw [g1 _ (by omega)]
      · have := (hend q (by omega)).mp h
        subst this; exact h6
      · rw [t1 (w + 25 + e) (by omega) (by omega), g1 _ (by omega)]
      · rcases (show f = 0 ∨ f = 1 ∨ f = 2 by omega) with rfl | rfl | rfl
        · rw [t4]; exact v0.symm
        · rw [t5]; exact v1.symm
        · rw [t6, gw]; exact hR.day.trans v2.symm
      · rw [t1 a (by omega) (by omega), g1 a (by omega)]
    have h70 := k70 (d := d) (J := J) hw hRn hWn
    refine ⟨tellI (goI I w p m9 (nI (nE s))) w (nE s) (nI 4) (nI p), fun a ha => ?_, ?_, ?_⟩
    · rw [t1 a (by omega) (by omega), g1 a (by omega)]
    · rw [if_pos hE]; exact hRn
    · have m9e : Int32.ofInt (-9) = m9 := rfl
      rw [c_77 (w_C hw), h72, bI_s, if_pos hE]
      simp only [e18, hE, m9e, h79, h80, h70, nn_0_1, nn_0_2, nn_0_3, nn_0_4, nn_0_5, nn_0_6, nn_0_7, nn_0_8, nn_1_0, nn_1_2, nn_1_3, nn_1_4, nn_1_5, nn_1_6, nn_1_7, nn_1_8, nn_2_0, nn_2_1, nn_2_3, nn_2_4, nn_2_5, nn_2_6, nn_2_7, nn_2_8, nn_3_0, nn_3_1, nn_3_2, nn_3_4, nn_3_5, nn_3_6, nn_3_7, nn_3_8, nn_4_0, nn_4_1, nn_4_2, nn_4_3, nn_4_5, nn_4_6, nn_4_7, nn_4_8, nn_5_0, nn_5_1, nn_5_2, nn_5_3, nn_5_4, nn_5_6, nn_5_7, nn_5_8, nn_6_0, nn_6_1, nn_6_2, nn_6_3, nn_6_4, nn_6_5, nn_6_7, nn_6_8, nn_7_0, nn_7_1, nn_7_2, nn_7_3, nn_7_4, nn_7_5, nn_7_6, nn_7_8, nn_8_0, nn_8_1, nn_8_2, nn_8_3, nn_8_4, nn_8_5, nn_8_6, nn_8_7, nq_0, nq_1, nq_2, nq_3, nq_4, nq_5, nq_6, nq_7, nq_8, bq_s, mS_c, mS_l, mS_r, mS_i, mS_j, mS_pi, mS_pj, lt_st, bq_s, bV_s, bI_s, bJ_s, bA_s, nz_0, nc_0, nz_1, nc_1, nz_2, nc_2, nz_3, nc_3, nz_4, nc_4, nz_5, nc_5, nz_6, nc_6, nz_7, nc_7, nz_8, nc_8, nz_9, nc_9, nz_10, nc_10, nz_11, nc_11, nz_12, nc_12, if_true, if_false, eq_self, true_and, and_true, false_or, or_false, true_or, or_true, false_and, and_false, not_true, not_false_eq_true, ne_eq, ite_self, ite_not, ↓reduceIte, n_101, n_107, n_11]
  · refine ⟨I, fun _ _ => rfl, by rw [if_neg hE]; exact hR, ?_⟩
    rw [c_77 (w_C hw), h72, bI_s, if_neg hE]
    simp only [e18, hE, nn_0_1, nn_0_2, nn_0_3, nn_0_4, nn_0_5, nn_0_6, nn_0_7, nn_0_8, nn_1_0, nn_1_2, nn_1_3, nn_1_4, nn_1_5, nn_1_6, nn_1_7, nn_1_8, nn_2_0, nn_2_1, nn_2_3, nn_2_4, nn_2_5, nn_2_6, nn_2_7, nn_2_8, nn_3_0, nn_3_1, nn_3_2, nn_3_4, nn_3_5, nn_3_6, nn_3_7, nn_3_8, nn_4_0, nn_4_1, nn_4_2, nn_4_3, nn_4_5, nn_4_6, nn_4_7, nn_4_8, nn_5_0, nn_5_1, nn_5_2, nn_5_3, nn_5_4, nn_5_6, nn_5_7, nn_5_8, nn_6_0, nn_6_1, nn_6_2, nn_6_3, nn_6_4, nn_6_5, nn_6_7, nn_6_8, nn_7_0, nn_7_1, nn_7_2, nn_7_3, nn_7_4, nn_7_5, nn_7_6, nn_7_8, nn_8_0, nn_8_1, nn_8_2, nn_8_3, nn_8_4, nn_8_5, nn_8_6, nn_8_7, nq_0, nq_1, nq_2, nq_3, nq_4, nq_5, nq_6, nq_7, nq_8, bq_s, mS_c, mS_l, mS_r, mS_i, mS_j, mS_pi, mS_pj, lt_st, bq_s, bV_s, bI_s, bJ_s, bA_s, nz_0, nc_0, nz_1, nc_1, nz_2, nc_2, nz_3, nc_3, nz_4, nc_4, nz_5, nc_5, nz_6, nc_6, nz_7, nc_7, nz_8, nc_8, nz_9, nc_9, nz_10, nc_10, nz_11, nc_11, nz_12, nc_12, if_true, if_false, eq_self, true_and, and_true, false_or, or_false, true_or, or_true, false_and, and_false, not_true, not_false_eq_true, ne_eq, ite_self, ite_not, ↓reduceIte, n_101, n_107, n_11]
end G1s
