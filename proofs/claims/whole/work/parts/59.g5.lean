/-! ===== the class: steps without an event ===== -/
section G5s
variable {I I' : mI} {J : mJ} {s s' : Rw} {w p q e c d k n g : Nat} {x y z u v sort key : Int32}
theorem Rep_sm (hR : Rep I w s) (hW : WF s) (hp : sameP s s') (hl : sameL s s') (c8 : I' w 8 = s' 0) (c11 : I' w 11 = s' 3) (c13 : I' w 13 = s' 4) (c12 : I' w 12 = s' 5) (c14 : I' w 14 = s' 7) (c9 : I' w 9 = I w 9) (c10 : I' w 10 = I w 10)
    (pp : ∀ a, (w + 13 ≤ a ∧ a < w + 43) ∨ (w + 7 ≤ a ∧ a < w + 12) → I' a = I a)
    (cc : ∀ c, c < nC s' → ∀ f, f < 5 → I' (w + 43 + c) f = cF s' c f) (kk : ∀ k, k < nW s' → ∀ f, f < 4 → I' (w + 55 + k) f = wF s' k f) (dd : ∀ d, d < nD s' → I' (w + 5) d = dF s' d 0 ∧ I' (w + 6) d = dF s' d 1) : Rep I' w s' := by
  have h12 := hW.nP.1
  have h18 := hW.nE.1
  have hx := sP_X hW hp hl
  have hP := sP_P hp
  have hE := sP_E hp
  refine ⟨⟨c8, by rw [c9, hp.1]; exact hR.ppl, by rw [c10, hp.2.1]; exact hR.evs, c11, c13, c12, c14⟩, fun p hp2 => ?_, fun e he f hf => ?_, cc, kk, dd, ?_⟩
  · rw [hP] at hp2
    have hc : I' (w + 13 + p) = I (w + 13 + p) := pp _ (Or.inl (by omega))
    have hv := hx.xvd hW hp2
    obtain ⟨r1, r2, r3, r4, r5, r6⟩ := hR.2.1 p hp2
    refine ⟨fun f hf => ?_, ?_, ?_, ?_, fun e he h => ?_, fun h => ?_⟩
    · rw [hc, r1 f hf, sP_p hp (by omega) (by omega)]
    · rw [hc, r2, sP_p hp (by omega) (by omega)]
    · rw [hc, r3, b2_iff hv.1]
    · rw [hc, r4, b2_iff hv.2]
    · rw [hE] at he
      rw [hc]; exact r5 e he ((hx.xen hW (by omega) he).mp h)
    · rw [hc]; exact r6 fun e he hh => h e (by omega) ((hx.xen hW (by omega) he).mpr hh)
  · rw [hE] at he
    rw [pp _ (Or.inl (by omega)), sP_e hp (by omega) hf]; exact hR.eF he hf
  · exact sL_R hl (hR.L.fr fun a h1 h2 => pp a (Or.inr (by omega)))
/-- a claim -/
def clI (I : mI) (c : Nat) (x y z u v : Int32) : mI := wI (wI (wI (wI (wI I c 0 x) c 1 y) c 2 z) c 3 u) c 4 v
theorem cl_c : (∀ a, a ≠ c → clI I c x y z u v a = I a) ∧ clI I c x y z u v c 0 = x ∧ clI I c x y z u v c 1 = y ∧ clI I c x y z u v c 2 = z ∧ clI I c x y z u v c 3 = u ∧ clI I c x y z u v c 4 = v := by
  unfold clI
  refine ⟨fun a h => ?_, ?_, ?_, ?_, ?_, wI_eq⟩
  · rw [wI_F1 a h, wI_F1 a h, wI_F1 a h, wI_F1 a h, wI_F1 a h]
  · rw [wI_nk (by decide), wI_nk (by decide), wI_nk (by decide), wI_nk (by decide), wI_eq]
  · rw [wI_nk (by decide), wI_nk (by decide), wI_nk (by decide), wI_eq]
  · rw [wI_nk (by decide), wI_nk (by decide), wI_eq]
  · rw [wI_nk (by decide), wI_eq]
theorem k6 (hc : lyC c = 1) : am_cal (d + 1) 6 [.ref c, .int x, .int y, .int z, .int u, .int v] (mS I J) = some (none, mS (clI I c x y z u v) J) := by
  rw [c_6 hc]
  simp only [hc, bq_s, mS_c, mS_l, mS_r, mS_i, mS_j, mS_pi, mS_pj, lt_st, bq_s, bV_s, bI_s, bJ_s, bA_s, nz_0, nc_0, nz_1, nc_1, nz_2, nc_2, nz_3, nc_3, nz_4, nc_4, nz_5, nc_5, nz_6, nc_6, nz_7, nc_7, nz_8, nc_8, nz_9, nc_9, nz_10, nc_10, nz_11, nc_11, nz_12, nc_12, if_true, if_false, eq_self, true_and, and_true, false_or, or_false, true_or, or_true, false_and, and_false, not_true, not_false_eq_true, ne_eq, ite_self, ite_not, ↓reduceIte, n_101, n_107, n_11]
  rfl
theorem k81 (hw : isW w) (hR : Rep I w s) (hW : WF s) : ∃ I', FW w I' I ∧ Rep I' w (if nC s < 12 then clS s x y z else s) ∧ am_cal (d + 2) 81 [.ref w, .int x, .int y, .int z] (mS I J) = some (some (.int (if nC s < 12 then nI (nC s) else Int32.ofInt (-2))), mS I' J) := by
  have h12 := hW.nP.1
  have h8 := hW.nW.1
  have hc12 := hW.nC.1
  have h11 : I w 11 = nI (nC s) := hR.cls.trans hW.nC.2
  rw [c_81 (w_C hw)]
  by_cases hC : nC s < 12
  · have hC2 : nC s ≤ 11 := by omega
    have i0c : (nI (nC s)).toNatClampNeg = nC s := nI_clamp (by omega)
    have i0z : (nI (nC s) < 0) = False := n_ge0 (by omega)
    have i0l : (12 ≤ nC s) = False := n_lef (by omega)
    obtain ⟨t1, t2, t3, t4, t5, t6⟩ := cl_c (I := I) (c := w + 43 + nC s) (x := x) (y := y) (z := z) (u := I w 8) (v := I w 10)
    have h6 := k6 (d := d) (I := I) (J := J) (x := x) (y := y) (z := z) (u := I w 8) (v := I w 10) (w_cc hw hC)
    generalize hI1 : clI I (w + 43 + nC s) x y z (I w 8) (I w 10) = I1 at t1 t2 t3 t4 t5 t6 h6
    have tw : I1 w = I w := t1 w (by omega)
    obtain ⟨o, e3, hn, q0, q1, q2, q3, q4⟩ := clS_f (x := x) (y := y) (z := z) hC
    have hp' : sameP s (clS s x y z) := ⟨o 1 (by decide) (by omega), o 2 (by decide) (by omega), fun k a b => o k (by omega) (by omega)⟩
    have hl : sameL s (clS s x y z) := ⟨o 6 (by decide) (by omega), fun k a => o k (by omega) (by omega)⟩
    refine ⟨wI I1 w 11 (nI (nC s + 1)), fun a ha => by rw [wI_F1 a (by omega), t1 a (by omega)], ?_, ?_⟩
    · rw [if_pos hC]
      have ow : ∀ f, f ≠ 11 → wI I1 w 11 (nI (nC s + 1)) w f = I w f := fun f hf => by rw [wI_nk hf, tw]
      have oa : ∀ a, a ≠ w → a ≠ w + 43 + nC s → wI I1 w 11 (nI (nC s + 1)) a = I a := fun a h1 h2 => by rw [wI_F1 a h1, t1 a h2]
      refine Rep_sm hR hW hp' hl ?_ ?_ ?_ ?_ ?_ (ow 9 (by decide)) (ow 10 (by decide)) (fun a ha => oa a (by omega) (by omega)) (fun c hc f hf => ?_) (fun k hk f hf => ?_) (fun d hd => ?_)
      · rw [ow 8 (by decide), o 0 (by decide) (by omega)]; exact hR.day
      · rw [wI_eq, e3]
      · rw [ow 13 (by decide), o 4 (by decide) (by omega)]; exact hR.dds
      · rw [ow 12 (by decide), o 5 (by decide) (by omega)]; exact hR.wds
      · rw [ow 14 (by decide), o 7 (by decide) (by omega)]; exact hR.zed
      · by_cases hcn : c < nC s
        · rw [oa _ (by omega) (by omega), hR.cF hcn hf]
          exact (o _ (by omega) (by omega)).symm
        · have : c = nC s := by omega
          subst this
          rw [wI_F1 _ (by omega)]
          rcases (show f = 0 ∨ f = 1 ∨ f = 2 ∨ f = 3 ∨ f = 4 by omega) with rfl | rfl | rfl | rfl | rfl
          · rw [t2]; exact q0.symm
          · rw [t3]; exact q1.symm
          · rw [t4]; exact q2.symm
          · rw [t5]; exact hR.day.trans q3.symm
          · rw [t6]; exact hR.evs.trans q4.symm
      · have hk : k < nW s := by unfold nW at hk; rw [o 5 (by decide) (by omega)] at hk; exact hk
        rw [oa _ (by omega) (by omega), hR.wF hk hf]
        exact (o _ (by omega) (by omega)).symm
      · have h10 := hW.nD.1
        have hd : d < nD s := by unfold nD at hd; rw [o 4 (by decide) (by omega)] at hd; exact hd
        rw [oa _ (by omega) (by omega), oa _ (by omega) (by omega)]
        exact ⟨(hR.d0 hd).trans (o _ (by omega) (by omega)).symm, (hR.d1 hd).trans (o _ (by omega) (by omega)).symm⟩
    · rw [if_pos hC]
      have hp' : nI (nC s + 1) - nI 1 = nI (nC s) := n_pred
      have i11 : I1 w 11 = nI (nC s) := by rw [tw]; exact h11
      have e11 : wI I1 w 11 (nI (nC s + 1)) w 11 = nI (nC s + 1) := wI_eq
      simp only [w_C hw, w_R2 hw, w_C3 hw, w_L3 hw, h11, i11, e11, n_ltt hC, n_lt (show nC s < 2 ^ 31 by omega) (show 12 < 2 ^ 31 by decide), eq_true hC, w_rc hw hC, i0c, i0z, i0l, h6, nI_add, hp', show (103 ≤ 104 ∧ 104 < 200) = True from eq_true (by decide), show (100 ≤ 104 ∧ 104 < 200) = True from eq_true (by decide), bq_s, mS_c, mS_l, mS_r, mS_i, mS_j, mS_pi, mS_pj, lt_st, bq_s, bV_s, bI_s, bJ_s, bA_s, nz_0, nc_0, nz_1, nc_1, nz_2, nc_2, nz_3, nc_3, nz_4, nc_4, nz_5, nc_5, nz_6, nc_6, nz_7, nc_7, nz_8, nc_8, nz_9, nc_9, nz_10, nc_10, nz_11, nc_11, nz_12, nc_12, if_true, if_false, eq_self, true_and, and_true, false_or, or_false, true_or, or_true, false_and, and_false, not_true, not_false_eq_true, ne_eq, ite_self, ite_not, ↓reduceIte, n_101, n_107, n_11]
  · refine ⟨I, fun _ _ => rfl, ?_, ?_⟩
    · rw [if_neg hC]; exact hR
    · rw [if_neg hC]
      simp only [w_C hw, w_R2 hw, w_C3 hw, w_L3 hw, h11, n_lt (show nC s < 2 ^ 31 by omega) (show 12 < 2 ^ 31 by decide), eq_false hC, show (100 ≤ 104 ∧ 104 < 200) = True from eq_true (by decide), bq_s, mS_c, mS_l, mS_r, mS_i, mS_j, mS_pi, mS_pj, lt_st, bq_s, bV_s, bI_s, bJ_s, bA_s, nz_0, nc_0, nz_1, nc_1, nz_2, nc_2, nz_3, nc_3, nz_4, nc_4, nz_5, nc_5, nz_6, nc_6, nz_7, nc_7, nz_8, nc_8, nz_9, nc_9, nz_10, nc_10, nz_11, nc_11, nz_12, nc_12, if_true, if_false, eq_self, true_and, and_true, false_or, or_false, true_or, or_true, false_and, and_false, not_true, not_false_eq_true, ne_eq, ite_self, ite_not, ↓reduceIte, n_101, n_107, n_11]
/-- a deed -/
theorem k82 (hw : isW w) (hR : Rep I w s) (hW : WF s) : ∃ I', FW w I' I ∧ Rep I' w (if nD s < 10 then ddS s x else s) ∧ am_cal (d + 1) 82 [.ref w, .int x] (mS I J) = some (some (.int (if nD s < 10 then nI (nD s) else Int32.ofInt (-2))), mS I' J) := by
  have h12 := hW.nP.1
  have h8 := hW.nW.1
  have hc12 := hW.nC.1
  have h10 := hW.nD.1
  have h13 : I w 13 = nI (nD s) := hR.dds.trans hW.nD.2
  rw [c_82 (w_C hw)]
  by_cases hD : nD s < 10
  · have hD2 : nD s ≤ 9 := by omega
    have i0c : (nI (nD s)).toNatClampNeg = nD s := nI_clamp (by omega)
    have i0z : (nI (nD s) < 0) = False := n_ge0 (by omega)
    have i0l : (10 ≤ nD s) = False := n_lef (by omega)
    obtain ⟨o, e4, hn, q0, q1⟩ := ddS_f (x := x) hD
    have hp' : sameP s (ddS s x) := ⟨o 1 (by decide) (by omega), o 2 (by decide) (by omega), fun k a b => o k (by omega) (by omega)⟩
    have hl : sameL s (ddS s x) := ⟨o 6 (by decide) (by omega), fun k a => o k (by omega) (by omega)⟩
    refine ⟨wI (wI (wI I (w + 5) (nD s) x) (w + 6) (nD s) (I w 8)) w 13 (nI (nD s + 1)), fun a ha => by rw [wI_F1 a (by omega), wI_F1 a (by omega), wI_F1 a (by omega)], ?_, ?_⟩
    · rw [if_pos hD]
      have ow : ∀ f, f ≠ 13 → wI (wI (wI I (w + 5) (nD s) x) (w + 6) (nD s) (I w 8)) w 13 (nI (nD s + 1)) w f = I w f := fun f hf => by rw [wI_nk hf, wI_ne (by omega), wI_ne (by omega)]
      have oa : ∀ a, a ≠ w → a ≠ w + 5 → a ≠ w + 6 → wI (wI (wI I (w + 5) (nD s) x) (w + 6) (nD s) (I w 8)) w 13 (nI (nD s + 1)) a = I a := fun a h1 h2 h3 => by rw [wI_F1 a h1, wI_F1 a h3, wI_F1 a h2]
      refine Rep_sm hR hW hp' hl ?_ ?_ ?_ ?_ ?_ (ow 9 (by decide)) (ow 10 (by decide)) (fun a ha => oa a (by omega) (by omega) (by omega)) (fun c hc f hf => ?_) (fun k hk f hf => ?_) (fun d hd => ?_)
      · rw [ow 8 (by decide), o 0 (by decide) (by omega)]; exact hR.day
      · rw [ow 11 (by decide), o 3 (by decide) (by omega)]; exact hR.cls
      · rw [wI_eq, e4]
      · rw [ow 12 (by decide), o 5 (by decide) (by omega)]; exact hR.wds
      · rw [ow 14 (by decide), o 7 (by decide) (by omega)]; exact hR.zed
      · have hc : c < nC s := by unfold nC at hc; rw [o 3 (by decide) (by omega)] at hc; exact hc
        rw [oa _ (by omega) (by omega) (by omega), hR.cF hc hf]
        exact (o _ (by omega) (by omega)).symm
      · have hk : k < nW s := by unfold nW at hk; rw [o 5 (by decide) (by omega)] at hk; exact hk
        rw [oa _ (by omega) (by omega) (by omega), hR.wF hk hf]
        exact (o _ (by omega) (by omega)).symm
      · have a5 : ∀ j, wI (wI (wI I (w + 5) (nD s) x) (w + 6) (nD s) (I w 8)) w 13 (nI (nD s + 1)) (w + 5) j = wI I (w + 5) (nD s) x (w + 5) j := fun j => (wI_ne (by omega)).trans (wI_ne (by omega))
        have a6 : ∀ j, wI (wI (wI I (w + 5) (nD s) x) (w + 6) (nD s) (I w 8)) w 13 (nI (nD s + 1)) (w + 6) j = wI (wI I (w + 5) (nD s) x) (w + 6) (nD s) (I w 8) (w + 6) j := fun j => wI_ne (by omega)
        rw [a5, a6]
        by_cases hdn : d < nD s
        · exact ⟨(wI_nk (by omega)).trans ((hR.d0 hdn).trans (o _ (by omega) (by omega)).symm), (wI_nk (by omega)).trans ((wI_ne (by omega)).trans ((hR.d1 hdn).trans (o _ (by omega) (by omega)).symm))⟩
        · have : d = nD s := by omega
          subst this
          exact ⟨wI_eq.trans q0.symm, wI_eq.trans (hR.day.trans q1.symm)⟩
    · rw [if_pos hD]
      have hp' : nI (nD s + 1) - nI 1 = nI (nD s) := n_pred
      have x1 : ∀ (I1 : mI) (k : Nat) (v : Int32), wI I1 (w + 5) k v w = I1 w := fun I1 k v => wI_F1 w (by omega)
      have x2 : ∀ (I1 : mI) (k : Nat) (v : Int32), wI I1 (w + 6) k v w = I1 w := fun I1 k v => wI_F1 w (by omega)
      have e13 : ∀ (I1 : mI) (v : Int32), wI I1 w 13 v w 13 = v := fun I1 v => wI_eq
      simp only [w_C hw, w_R4 hw, w_R5 hw, w_C5 hw, w_L5 hw, w_C6 hw, w_L6 hw, h13, x1, x2, e13, n_lt (show nD s < 2 ^ 31 by omega) (show 10 < 2 ^ 31 by decide), eq_true hD, i0c, i0z, i0l, nI_add, hp', show (100 ≤ 100 ∧ 100 < 200) = True from eq_true (by decide), bq_s, mS_c, mS_l, mS_r, mS_i, mS_j, mS_pi, mS_pj, lt_st, bq_s, bV_s, bI_s, bJ_s, bA_s, nz_0, nc_0, nz_1, nc_1, nz_2, nc_2, nz_3, nc_3, nz_4, nc_4, nz_5, nc_5, nz_6, nc_6, nz_7, nc_7, nz_8, nc_8, nz_9, nc_9, nz_10, nc_10, nz_11, nc_11, nz_12, nc_12, if_true, if_false, eq_self, true_and, and_true, false_or, or_false, true_or, or_true, false_and, and_false, not_true, not_false_eq_true, ne_eq, ite_self, ite_not, ↓reduceIte, n_101, n_107, n_11]
  · refine ⟨I, fun _ _ => rfl, ?_, ?_⟩
    · rw [if_neg hD]; exact hR
    · rw [if_neg hD]
      simp only [w_C hw, w_R4 hw, w_C5 hw, w_L5 hw, h13, n_lt (show nD s < 2 ^ 31 by omega) (show 10 < 2 ^ 31 by decide), eq_false hD, show (100 ≤ 100 ∧ 100 < 200) = True from eq_true (by decide), bq_s, mS_c, mS_l, mS_r, mS_i, mS_j, mS_pi, mS_pj, lt_st, bq_s, bV_s, bI_s, bJ_s, bA_s, nz_0, nc_0, nz_1, nc_1, nz_2, nc_2, nz_3, nc_3, nz_4, nc_4, nz_5, nc_5, nz_6, nc_6, nz_7, nc_7, nz_8, nc_8, nz_9, nc_9, nz_10, nc_10, nz_11, nc_11, nz_12, nc_12, if_true, if_false, eq_self, true_and, and_true, false_or, or_false, true_or, or_true, false_and, and_false, not_true, not_false_eq_true, ne_eq, ite_self, ite_not, ↓reduceIte, n_101, n_107, n_11]
/-- a wedding -/
def wdI (I : mI) (c : Nat) (x y z u : Int32) : mI := wI (wI (wI (wI I c 0 x) c 1 y) c 2 z) c 3 u
theorem wd_c : (∀ a, a ≠ c → wdI I c x y z u a = I a) ∧ wdI I c x y z u c 0 = x ∧ wdI I c x y z u c 1 = y ∧ wdI I c x y z u c 2 = z ∧ wdI I c x y z u c 3 = u := by
  unfold wdI
  refine ⟨fun a h => ?_, ?_, ?_, ?_, wI_eq⟩
  · rw [wI_F1 a h, wI_F1 a h, wI_F1 a h, wI_F1 a h]
  · rw [wI_nk (by decide), wI_nk (by decide), wI_nk (by decide), wI_eq]
  · rw [wI_nk (by decide), wI_nk (by decide), wI_eq]
  · rw [wI_nk (by decide), wI_eq]
theorem k62 (hc : lyC c = 9) : am_cal (d + 1) 62 [.ref c, .int x, .int y, .int z, .int u] (mS I J) = some (none, mS (wdI I c x y z u) J) := by
  rw [c_62 hc]
  simp only [hc, bq_s, mS_c, mS_l, mS_r, mS_i, mS_j, mS_pi, mS_pj, lt_st, bq_s, bV_s, bI_s, bJ_s, bA_s, nz_0, nc_0, nz_1, nc_1, nz_2, nc_2, nz_3, nc_3, nz_4, nc_4, nz_5, nc_5, nz_6, nc_6, nz_7, nc_7, nz_8, nc_8, nz_9, nc_9, nz_10, nc_10, nz_11, nc_11, nz_12, nc_12, if_true, if_false, eq_self, true_and, and_true, false_or, or_false, true_or, or_true, false_and, and_false, not_true, not_false_eq_true, ne_eq, ite_self, ite_not, ↓reduceIte, n_101, n_107, n_11]
  rfl
theorem k83 (hw : isW w) (hR : Rep I w s) (hW : WF s) : ∃ I', FW w I' I ∧ Rep I' w (if nW s < 8 then wdS s x y else s) ∧ am_cal (d + 2) 83 [.ref w, .int x, .int y] (mS I J) = some (some (.int (if nW s < 8 then nI (nW s) else Int32.ofInt (-2))), mS I' J) := by
  have h12 := hW.nP.1
  have h8 := hW.nW.1
  have hc12 := hW.nC.1
  have h10 := hW.nD.1
  have h11 : I w 12 = nI (nW s) := hR.wds.trans hW.nW.2
  rw [c_83 (w_C hw)]
  by_cases hC : nW s < 8
  · have hC2 : nW s ≤ 7 := by omega
    have i0c : (nI (nW s)).toNatClampNeg = nW s := nI_clamp (by omega)
    have i0z : (nI (nW s) < 0) = False := n_ge0 (by omega)
    have i0l : (8 ≤ nW s) = False := n_lef (by omega)
    obtain ⟨t1, t2, t3, t4, t5⟩ := wd_c (I := I) (c := w + 55 + nW s) (x := x) (y := y) (z := I w 8) (u := I w 10)
    have h6 := k62 (d := d) (I := I) (J := J) (x := x) (y := y) (z := I w 8) (u := I w 10) (w_cd hw hC)
    generalize hI1 : wdI I (w + 55 + nW s) x y (I w 8) (I w 10) = I1 at t1 t2 t3 t4 t5 h6
    have tw : I1 w = I w := t1 w (by omega)
    obtain ⟨o, e3, hn, q0, q1, q2, q3⟩ := wdS_f (x := x) (y := y) hC
    have hp' : sameP s (wdS s x y) := ⟨o 1 (by decide) (by omega), o 2 (by decide) (by omega), fun k a b => o k (by omega) (by omega)⟩
    have hl : sameL s (wdS s x y) := ⟨o 6 (by decide) (by omega), fun k a => o k (by omega) (by omega)⟩
    refine ⟨wI I1 w 12 (nI (nW s + 1)), fun a ha => by rw [wI_F1 a (by omega), t1 a (by omega)], ?_, ?_⟩
    · rw [if_pos hC]
      have ow : ∀ f, f ≠ 12 → wI I1 w 12 (nI (nW s + 1)) w f = I w f := fun f hf => by rw [wI_nk hf, tw]
      have oa : ∀ a, a ≠ w → a ≠ w + 55 + nW s → wI I1 w 12 (nI (nW s + 1)) a = I a := fun a h1 h2 => by rw [wI_F1 a h1, t1 a h2]
      refine Rep_sm hR hW hp' hl ?_ ?_ ?_ ?_ ?_ (ow 9 (by decide)) (ow 10 (by decide)) (fun a ha => oa a (by omega) (by omega)) (fun c hc f hf => ?_) (fun k hk f hf => ?_) (fun d hd => ?_)
      · rw [ow 8 (by decide), o 0 (by decide) (by omega)]; exact hR.day
      · rw [ow 11 (by decide), o 3 (by decide) (by omega)]; exact hR.cls
      · rw [ow 13 (by decide), o 4 (by decide) (by omega)]; exact hR.dds
      · rw [wI_eq, e3]
      · rw [ow 14 (by decide), o 7 (by decide) (by omega)]; exact hR.zed
      · have hc : c < nC s := by unfold nC at hc; rw [o 3 (by decide) (by omega)] at hc; exact hc
        rw [oa _ (by omega) (by omega), hR.cF hc hf]
        exact (o _ (by omega) (by omega)).symm
      · by_cases hkn : k < nW s
        · rw [oa _ (by omega) (by omega), hR.wF hkn hf]
          exact (o _ (by omega) (by omega)).symm
        · have : k = nW s := by omega
          subst this
          rw [wI_F1 _ (by omega)]
          rcases (show f = 0 ∨ f = 1 ∨ f = 2 ∨ f = 3 by omega) with rfl | rfl | rfl | rfl
          · rw [t2]; exact q0.symm
          · rw [t3]; exact q1.symm
          · rw [t4]; exact hR.day.trans q2.symm
          · rw [t5]; exact hR.evs.trans q3.symm
      · have hd : d < nD s := by unfold nD at hd; rw [o 4 (by decide) (by omega)] at hd; exact hd
        rw [oa _ (by omega) (by omega), oa _ (by omega) (by omega)]
        exact ⟨(hR.d0 hd).trans (o _ (by omega) (by omega)).symm, (hR.d1 hd).trans (o _ (by omega) (by omega)).symm⟩
    · rw [if_pos hC]
      have hp' : nI (nW s + 1) - nI 1 = nI (nW s) := n_pred
      have i11 : I1 w 12 = nI (nW s) := by rw [tw]; exact h11
      have e11 : wI I1 w 12 (nI (nW s + 1)) w 12 = nI (nW s + 1) := wI_eq
      simp only [w_C hw, w_R3 hw, w_C4 hw, w_L4 hw, h11, i11, e11, n_lt (show nW s < 2 ^ 31 by omega) (show 8 < 2 ^ 31 by decide), eq_true hC, w_rd hw hC, i0c, i0z, i0l, h6, nI_add, hp', show (103 ≤ 112 ∧ 112 < 200) = True from eq_true (by decide), show (100 ≤ 112 ∧ 112 < 200) = True from eq_true (by decide), bq_s, mS_c, mS_l, mS_r, mS_i, mS_j, mS_pi, mS_pj, lt_st, bq_s, bV_s, bI_s, bJ_s, bA_s, nz_0, nc_0, nz_1, nc_1, nz_2, nc_2, nz_3, nc_3, nz_4, nc_4, nz_5, nc_5, nz_6, nc_6, nz_7, nc_7, nz_8, nc_8, nz_9, nc_9, nz_10, nc_10, nz_11, nc_11, nz_12, nc_12, if_true, if_false, eq_self, true_and, and_true, false_or, or_false, true_or, or_true, false_and, and_false, not_true, not_false_eq_true, ne_eq, ite_self, ite_not, ↓reduceIte, n_101, n_107, n_11]
  · refine ⟨I, fun _ _ => rfl, ?_, ?_⟩
    · rw [if_neg hC]; exact hR
    · rw [if_neg hC]
      simp only [w_C hw, w_R3 hw, w_C4 hw, w_L4 hw, h11, n_lt (show nW s < 2 ^ 31 by omega) (show 8 < 2 ^ 31 by decide), eq_false hC, show (100 ≤ 112 ∧ 112 < 200) = True from eq_true (by decide), bq_s, mS_c, mS_l, mS_r, mS_i, mS_j, mS_pi, mS_pj, lt_st, bq_s, bV_s, bI_s, bJ_s, bA_s, nz_0, nc_0, nz_1, nc_1, nz_2, nc_2, nz_3, nc_3, nz_4, nc_4, nz_5, nc_5, nz_6, nc_6, nz_7, nc_7, nz_8, nc_8, nz_9, nc_9, nz_10, nc_10, nz_11, nc_11, nz_12, nc_12, if_true, if_false, eq_self, true_and, and_true, false_or, or_false, true_or, or_true, false_and, and_false, not_true, not_false_eq_true, ne_eq, ite_self, ite_not, ↓reduceIte, n_101, n_107, n_11]
end G5s
