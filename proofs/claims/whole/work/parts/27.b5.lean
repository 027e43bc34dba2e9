/-! ===== what the law says on an event, and now ===== -/
theorem mrun_ag {s f g : Rw} (hfg : ∀ j, j < 6 → f j = g j) : ∀ (n k q : Nat) (l : List Int32), wfk s n k q → mrun s f n k l = mrun s g n k l
  | 0, _, _, _, _ => rfl
  | n + 1, k, q, l, h => by
    have e : mst s f k l = mst s g k l := by
      unfold mst
      rcases h with ⟨h1, h2, _⟩ | ⟨h1, _⟩ | ⟨h1, _⟩
      · rw [if_pos h1, if_pos h1]
        rcases h2 with h2 | ⟨j, hj, h2⟩
        · rw [if_pos h2, if_pos h2]
        · have h7 : nI (10000 + j) - nI 10000 = nI j := by rw [n_sub (by omega)]; exact congrArg nI (by omega)
          rw [h2, h7, nI_clamp (by omega), hfg j hj]
      · have hn : ¬ s (346 + k) < nI 10010 := by rw [h1]; decide +kernel
        rw [if_neg hn, if_neg hn]
      · have hn : ¬ s (346 + k) < nI 10010 := by rcases h1 with h1 | h1 | h1 | h1 | h1 <;> rw [h1] <;> decide +kernel
        rw [if_neg hn, if_neg hn]
    show mrun s f n (k + 1) (mst s f k l) = mrun s g n (k + 1) (mst s g k l)
    rw [e]
    rcases h with ⟨_, _, _, h⟩ | ⟨_, _, h⟩ | ⟨_, _, _, h⟩ <;> exact mrun_ag hfg n _ _ _ h
theorem hld_ag {s f g : Rw} {c : Nat} (hW : wfL s c) (hfg : ∀ j, j < 6 → f j = g j) : hld s c f = hld s c g := by
  obtain ⟨a, b, hab, hb, ha4, hb4, hk⟩ := hW.1
  unfold hld
  rcases hk with ⟨h2, _⟩ | ⟨_, hk⟩
  · rw [h2]
    exact propext ⟨fun _ => Or.inl rfl, fun _ => Or.inl rfl⟩
  · rw [ha4, hb4, nI_clamp (by omega), nI_clamp (by omega), mrun_ag hfg _ _ _ _ hk]
theorem lawV_ag {s f g : Rw} {key : Int32} (hW : WF s) (hfg : ∀ j, j < 6 → f j = g j) : lawV s key f = lawV s key g := by
  have lp : ∀ c, c ≤ nL s → lawU s key f c = lawU s key g c := by
    intro c
    induction c with
    | zero => intro _; rfl
    | succ c ih =>
      intro hc
      rw [lawU_s, lawU_s, hld_ag (hW.2.2.2.2.2.2.2.2 c hc) hfg, ih (by omega)]
  exact lp _ (Nat.le_refl _)
/-- six facts written -/
theorem fct_6 {I : mI} {q : Nat} {a b c d e g : Int32} : ∀ j, j < 6 → wI (wI (wI (wI (wI (wI I q 0 a) q 1 b) q 2 c) q 3 d) q 4 e) q 5 g q j = fct a b c d e g j := by
  intro j hj
  rcases (show j = 0 ∨ j = 1 ∨ j = 2 ∨ j = 3 ∨ j = 4 ∨ j = 5 by omega) with rfl | rfl | rfl | rfl | rfl | rfl
  · rw [wI_nk (by decide), wI_nk (by decide), wI_nk (by decide), wI_nk (by decide), wI_nk (by decide), wI_eq]; rfl
  · rw [wI_nk (by decide), wI_nk (by decide), wI_nk (by decide), wI_nk (by decide), wI_eq]; rfl
  · rw [wI_nk (by decide), wI_nk (by decide), wI_nk (by decide), wI_eq]; rfl
  · rw [wI_nk (by decide), wI_nk (by decide), wI_eq]; rfl
  · rw [wI_nk (by decide), wI_eq]; rfl
  · rw [wI_eq]; rfl
theorem F1_6 {I : mI} {q : Nat} {a b c d e g : Int32} : F1 q (wI (wI (wI (wI (wI (wI I q 0 a) q 1 b) q 2 c) q 3 d) q 4 e) q 5 g) I := fun x hx => by
  rw [wI_F1 x hx, wI_F1 x hx, wI_F1 x hx, wI_F1 x hx, wI_F1 x hx, wI_F1 x hx]
theorem RepL.fr {I I' : mI} {l : Nat} {s : Rw} (h : RepL I l s) (e : ∀ a, l ≤ a → a < l + 5 → I' a = I a) : RepL I' l s := by
  obtain ⟨h1, t, h2, h3⟩ := h
  refine ⟨by rw [e l (by omega) (by omega)]; exact h1, t, fun i hi => ?_, fun i hi => ?_⟩
  · rw [e (l + 3) (by omega) (by omega)]; exact h2 i hi
  · rw [e (l + 1) (by omega) (by omega), e (l + 2) (by omega) (by omega), e (l + 4) (by omega) (by omega)]; exact h3 i hi
theorem Rep.fr {I I' : mI} {w : Nat} {s : Rw} (h : Rep I w s) (hW : WF s) (e : ∀ a, w ≤ a → a < w + 63 → a ≠ w + 12 → I' a = I a) : Rep I' w s := by
  obtain ⟨h1, h2, h3, h4, h5, h6, h7⟩ := h
  have n1 := hW.nP.1
  have n2 := hW.nE.1
  have n3 := hW.nC.1
  have n4 := hW.nW.1
  refine ⟨by rw [e w (by omega) (by omega) (by omega)]; exact h1, fun p hp => ?_, fun k hk => ?_, fun k hk => ?_, fun k hk => ?_, fun k hk => ?_, h7.fr fun a ha ha2 => e a (by omega) (by omega) (by omega)⟩
  · have := h2 p hp
    unfold RepP at this ⊢
    rw [e (w + 13 + p) (by omega) (by omega) (by omega)]
    exact this
  · rw [e (w + 25 + k) (by omega) (by omega) (by omega)]; exact h3 k hk
  · rw [e (w + 43 + k) (by omega) (by omega) (by omega)]; exact h4 k hk
  · rw [e (w + 55 + k) (by omega) (by omega) (by omega)]; exact h5 k hk
  · rw [e (w + 5) (by omega) (by omega) (by omega), e (w + 6) (by omega) (by omega) (by omega)]; exact h6 k hk
section B5
variable {I : mI} {J : mJ} {w p q e c d l b : Nat} {s : Rw} {x key : Int32}
theorem k86 {y a h5 : Int32} (hw : isW w) (h : Rep I w s) (hW : WF s) (hp : p < nP s) : ∃ I', F1 (w + 12) I' I ∧ am_cal (d + 4) 86 [.ref w, .int key, .int (nI p), .int y, .int a, .int h5] (mS I J) = some (some (.int (lawV s key (fct y (nI p) (pF s p 4 - pF s p 5) (pF s p 1) a h5))), mS I' J) := by
  have n1 := hW.nP.1
  refine ⟨_, F1_6 (I := I) (q := w + 12) (a := y) (b := nI p) (c := pF s p 4 - pF s p 5) (d := pF s p 1) (e := a) (g := h5), ?_⟩
  have e4 : ∀ I1 : mI, F1 (w + 12) I1 I → I1 (w + 13 + p) = I (w + 13 + p) := fun I1 h1 => h1 _ (by omega)
  rw [c_86 (w_C hw)]
  have hc : (nI p).toNatClampNeg = p := nI_clamp (by omega)
  have hz : (nI p < 0) = False := n_ge0 (by omega)
  have hl : (12 ≤ p) = False := n_lef (by omega)
  have hx : (w + 13 + p = w + 12) = False := eq_false (by omega)
  simp only [w_C hw, w_R0 hw, w_R6 hw, w_R7 hw, w_C1 hw, w_L1 hw, w_C12 hw, w_L12 hw, w_rp hw (show p < 12 by omega), w_cp hw (show p < 12 by omega), bq_s, mS_c, mS_l, mS_r, mS_i, mS_j, mS_pi, mS_pj, lt_st, bq_s, bV_s, bI_s, bJ_s, bA_s, nz_0, nc_0, nz_1, nc_1, nz_2, nc_2, nz_3, nc_3, nz_4, nc_4, nz_5, nc_5, nz_6, nc_6, nz_7, nc_7, nz_8, nc_8, nz_9, nc_9, nz_10, nc_10, nz_11, nc_11, nz_12, nc_12, if_true, if_false, eq_self, true_and, and_true, false_or, or_false, true_or, or_true, false_and, and_false, not_true, not_false_eq_true, ne_eq, ite_self, ite_not, ↓reduceIte, hc, hz, hl, wI_ne (show w + 13 + p ≠ w + 12 by omega), h.pF hp (show 4 < 8 by omega), h.pF hp (show 5 < 8 by omega), h.pF hp (show 1 < 8 by omega), n_101, n_107, n_11, n_60, n_61, n_62, n_63, n_64, n_65]
  rw [k15 hw.l (w_C12 hw) (w_L12 hw) ((h.fr hW fun x _ _ hx => F1_6 x hx).L) hW.nL, bI_s, lawV_ag hW fct_6]
theorem k87 (hw : isW w) (h : Rep I w s) (hW : WF s) (hp : p < nP s) : ∃ I', F1 (w + 12) I' I ∧ am_cal (d + 4) 87 [.ref w, .int key, .int (nI p)] (mS I J) = some (some (.int (lawV s key (fct (s 0) (s 1) (nI 0) (pF s p 0) (nI 0) (nI 0)))), mS I' J) := by
  have n1 := hW.nP.1
  refine ⟨_, F1_6 (I := I) (q := w + 12) (a := s 0) (b := s 1) (c := nI 0) (d := pF s p 0) (e := nI 0) (g := nI 0), ?_⟩
  rw [c_87 (w_C hw)]
  have hc : (nI p).toNatClampNeg = p := nI_clamp (by omega)
  have hz : (nI p < 0) = False := n_ge0 (by omega)
  have hl : (12 ≤ p) = False := n_lef (by omega)
  simp only [w_C hw, w_R0 hw, w_R6 hw, w_R7 hw, w_C1 hw, w_L1 hw, w_C12 hw, w_L12 hw, w_rp hw (show p < 12 by omega), w_cp hw (show p < 12 by omega), bq_s, mS_c, mS_l, mS_r, mS_i, mS_j, mS_pi, mS_pj, lt_st, bq_s, bV_s, bI_s, bJ_s, bA_s, nz_0, nc_0, nz_1, nc_1, nz_2, nc_2, nz_3, nc_3, nz_4, nc_4, nz_5, nc_5, nz_6, nc_6, nz_7, nc_7, nz_8, nc_8, nz_9, nc_9, nz_10, nc_10, nz_11, nc_11, nz_12, nc_12, if_true, if_false, eq_self, true_and, and_true, false_or, or_false, true_or, or_true, false_and, and_false, not_true, not_false_eq_true, ne_eq, ite_self, ite_not, ↓reduceIte, hc, hz, hl, wI_ne (show w + 13 + p ≠ w + 12 by omega), wI_ne (show w ≠ w + 12 by omega), h.pF hp (show 0 < 8 by omega), h.day, h.ppl, n_101, n_107, n_11, n_60, n_61, n_62, n_63, n_64, n_65]
  rw [k15 hw.l (w_C12 hw) (w_L12 hw) ((h.fr hW fun x _ _ hx => F1_6 x hx).L) hW.nL, bI_s, lawV_ag hW fct_6]
end B5
