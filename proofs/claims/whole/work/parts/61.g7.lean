/-! ===== the class: days, the seed ===== -/
section G7s
variable {I I' : mI} {J : mJ} {s s' : Rw} {w p q e c d k n g : Nat} {x y z u v sort key : Int32}
/-- one place of the world and its row -/
theorem Rep_one {f g : Nat} (hR : Rep I 1 s) (hW : WF s) (h : (f = 8 ∧ g = 0) ∨ (f = 14 ∧ g = 7)) : Rep (wI I 1 f x) 1 (rset s g x) := by
  have hg : g = 0 ∨ g = 7 := by omega
  have o : ∀ k, k ≠ g → rset s g x k = s k := fun k hk => rset_n hk
  have hp : sameP s (rset s g x) := ⟨o 1 (by omega), o 2 (by omega), fun k a b => o k (by omega)⟩
  have hl : sameL s (rset s g x) := ⟨o 6 (by omega), fun k a => o k (by omega)⟩
  have oa : ∀ a, a ≠ 1 → wI I 1 f x a = I a := fun a ha => wI_F1 a ha
  have ow : ∀ k, k ≠ f → wI I 1 f x 1 k = I 1 k := fun k hk => wI_nk hk
  have hC := hW.nC.1
  have hD := hW.nD.1
  have hV := hW.nW.1
  refine Rep_sm hR hW hp hl ?_ ?_ ?_ ?_ ?_ (ow 9 (by omega)) (ow 10 (by omega)) (fun a ha => oa a (by omega)) (fun c hc f hf => ?_) (fun k hk f hf => ?_) (fun d hd => ?_)
  · rcases h with ⟨rfl, rfl⟩ | ⟨rfl, rfl⟩
    · rw [wI_eq, rset_e]
    · rw [ow 8 (by decide), o 0 (by decide)]; exact hR.day
  · rw [ow 11 (by omega), o 3 (by omega)]; exact hR.cls
  · rw [ow 13 (by omega), o 4 (by omega)]; exact hR.dds
  · rw [ow 12 (by omega), o 5 (by omega)]; exact hR.wds
  · rcases h with ⟨rfl, rfl⟩ | ⟨rfl, rfl⟩
    · rw [ow 14 (by decide), o 7 (by decide)]; exact hR.zed
    · rw [wI_eq, rset_e]
  · have hc : c < nC s := by unfold nC at hc; rw [o 3 (by omega)] at hc; exact hc
    rw [oa _ (by omega), hR.cF hc hf]
    exact (o _ (by omega)).symm
  · have hk : k < nW s := by unfold nW at hk; rw [o 5 (by omega)] at hk; exact hk
    rw [oa _ (by omega), hR.wF hk hf]
    exact (o _ (by omega)).symm
  · have hd : d < nD s := by unfold nD at hd; rw [o 4 (by omega)] at hd; exact hd
    rw [oa _ (by omega), oa _ (by omega)]
    exact ⟨(hR.d0 hd).trans (o _ (by omega)).symm, (hR.d1 hd).trans (o _ (by omega)).symm⟩
theorem wI1_fp {f : Nat} : FP (wI I 1 f x) I := fun a ha _ _ => wI_F1 a (by omega)
theorem k92 (hR : Rep I 1 s) (hW : WF s) : ∃ I', FP I' I ∧ Rep I' 1 (tr_later s x) ∧ am_cal (d + 1) 92 [.ref 0, .int x] (mS I J) = some (some (.int (v_later s x)), mS I' J) := by
  have day : I 1 8 = s 0 := hR.day
  have e8 : ∀ v, wI I 1 8 v 1 8 = v := fun v => wI_eq
  rw [c_92 lc_0]
  simp only [lc_0, lr_0_0, w_C W1, day, e8, bq_s, mS_c, mS_l, mS_r, mS_i, mS_j, mS_pi, mS_pj, lt_st, bq_s, bV_s, bI_s, bJ_s, bA_s, nz_0, nc_0, nz_1, nc_1, nz_2, nc_2, nz_3, nc_3, nz_4, nc_4, nz_5, nc_5, nz_6, nc_6, nz_7, nc_7, nz_8, nc_8, nz_9, nc_9, nz_10, nc_10, nz_11, nc_11, nz_12, nc_12, if_true, if_false, eq_self, true_and, and_true, false_or, or_false, true_or, or_true, false_and, and_false, not_true, not_false_eq_true, ne_eq, ite_self, ite_not, ↓reduceIte, n_101, n_107, n_11]
  unfold v_later tr_later
  by_cases h1 : x < nI 1
  · rw [if_pos h1, if_neg (fun h => h.1 h1), if_neg (fun h => h.1 h1)]
    exact ⟨I, FP.rf, hR, rfl⟩
  · by_cases h2 : nI 99 < x
    · rw [if_neg h1, if_pos h2, if_neg (fun h => h.2 h2), if_neg (fun h => h.2 h2)]
      exact ⟨I, FP.rf, hR, rfl⟩
    · rw [if_neg h1, if_neg h2, if_pos (show ¬ x < nI 1 ∧ ¬ nI 99 < x from ⟨h1, h2⟩), if_pos (show ¬ x < nI 1 ∧ ¬ nI 99 < x from ⟨h1, h2⟩)]
      by_cases h3 : nI 999 < s 0 + x
      · rw [if_pos h3, if_pos h3, if_pos h3]
        exact ⟨I, FP.rf, hR, rfl⟩
      · rw [if_neg h3, if_neg h3, if_neg h3]
        exact ⟨wI I 1 8 (s 0 + x), wI1_fp, Rep_one hR hW (Or.inl ⟨rfl, rfl⟩), rfl⟩
theorem k120 (hR : Rep I 1 s) (hW : WF s) : ∃ I', FP I' I ∧ Rep I' 1 (rset s 7 x) ∧ am_cal (d + 1) 120 [.ref 0, .int x] (mS I J) = some (some (.int (s 7)), mS I' J) := by
  have zed : I 1 14 = s 7 := hR.zed
  refine ⟨wI I 1 14 x, wI1_fp, Rep_one hR hW (Or.inr ⟨rfl, rfl⟩), ?_⟩
  rw [c_120 lc_0]
  simp only [lc_0, lr_0_0, w_C W1, zed, bq_s, mS_c, mS_l, mS_r, mS_i, mS_j, mS_pi, mS_pj, lt_st, bq_s, bV_s, bI_s, bJ_s, bA_s, nz_0, nc_0, nz_1, nc_1, nz_2, nc_2, nz_3, nc_3, nz_4, nc_4, nz_5, nc_5, nz_6, nc_6, nz_7, nc_7, nz_8, nc_8, nz_9, nc_9, nz_10, nc_10, nz_11, nc_11, nz_12, nc_12, if_true, if_false, eq_self, true_and, and_true, false_or, or_false, true_or, or_true, false_and, and_false, not_true, not_false_eq_true, ne_eq, ite_self, ite_not, ↓reduceIte, n_101, n_107, n_11]
/-! ===== what holds, goes on holding under each call ===== -/
theorem W_later (hW : WF s) : WF (tr_later s x) := by
  unfold tr_later
  by_cases h : ¬ x < nI 1 ∧ ¬ nI 99 < x
  · rw [if_pos h]
    by_cases h3 : nI 999 < s 0 + x
    · rw [if_pos h3]; exact hW
    · rw [if_neg h3]; exact WF_later hW h.1 h.2 h3
  · rw [if_neg h]; exact hW
theorem W_born (hW : WF s) : WF (tr_born s) := by
  unfold tr_born
  by_cases h : okR s
  · rw [if_pos h]; exact WF_born hW h
  · rw [if_neg h]; exact hW
theorem W_copied (hW : WF s) : WF (tr_copied s x y z u v) := by
  unfold tr_copied
  by_cases h : okCp s x y z u
  · rw [if_pos h]
    by_cases ha : isAw s x.toNatClampNeg
    · rw [if_pos ha]
      by_cases ho : okR s
      · rw [if_pos ho]
        obtain ⟨p, hp, rfl⟩ := isP_n hW h.1
        have h12 := hW.nP.1
        rw [nI_clamp (show p < 2 ^ 31 by omega)] at ha
        exact WF_copy hW ho h hp ha
      · rw [if_neg ho]; exact hW
    · rw [if_neg ha]; exact hW
  · rw [if_neg h]; exact hW
theorem W_wake (hW : WF s) : WF (tr_wake s x) := by
  unfold tr_wake
  by_cases h : isP s x
  · rw [if_pos h]
    obtain ⟨p, hp, rfl⟩ := isP_n hW h
    have h12 := hW.nP.1
    rw [nI_clamp (show p < 2 ^ 31 by omega)]
    by_cases h5 : pF s p 0 = nI 5
    · rw [if_pos h5]
      by_cases hE : nE s < 18
      · rw [if_pos hE]; exact WF_wake hW hp h5 hE
      · rw [if_neg hE]; exact hW
    · rw [if_neg h5]; exact hW
  · rw [if_neg h]; exact hW
theorem W_join (hW : WF s) : WF (tr_join s x y) := by
  unfold tr_join
  by_cases h : okJo s x y
  · rw [if_pos h]
    obtain ⟨hx, hy, he⟩ := h
    obtain ⟨p, hp, rfl⟩ := isP_n hW hx
    obtain ⟨q, hq, rfl⟩ := isP_n hW hy
    have h12 := hW.nP.1
    rw [nI_clamp (show p < 2 ^ 31 by omega), nI_clamp (show q < 2 ^ 31 by omega)]
    by_cases ha : isAw s p ∧ isAw s q
    · rw [if_pos ha]
      by_cases ho : okR s
      · rw [if_pos ho]; exact WF_join hW ho hp hq (fun h => he (by rw [h])) ha.1 ha.2
      · rw [if_neg ho]; exact hW
    · rw [if_neg ha]; exact hW
  · rw [if_neg h]; exact hW
theorem W_end (hW : WF s) : WF (tr_end s x) := by
  unfold tr_end
  by_cases h : isP s x
  · rw [if_pos h]
    obtain ⟨p, hp, rfl⟩ := isP_n hW h
    have h12 := hW.nP.1
    rw [nI_clamp (show p < 2 ^ 31 by omega)]
    by_cases h6 : pF s p 0 = nI 6
    · rw [if_pos h6]; exact hW
    · rw [if_neg h6]
      by_cases hE : nE s < 18
      · rw [if_pos hE]; exact WF_end hW hp h6 hE
      · rw [if_neg hE]; exact hW
  · rw [if_neg h]; exact hW
theorem W_claim (hW : WF s) : WF (tr_claim s x y z) := by
  unfold tr_claim
  by_cases h : okCl s x y z
  · rw [if_pos h]
    obtain ⟨hx, hy, h1, h2⟩ := h
    obtain ⟨p, hp, rfl⟩ := isP_n hW hy
    have h12 := hW.nP.1
    rw [nI_clamp (show p < 2 ^ 31 by omega)]
    by_cases ha : isAw s p
    · rw [if_pos ha]
      by_cases hC : nC s < 12
      · rw [if_pos hC]; exact WF_claim hW hC hx hp ha h1 h2
      · rw [if_neg hC]; exact hW
    · rw [if_neg ha]; exact hW
  · rw [if_neg h]; exact hW
theorem W_deed (hW : WF s) : WF (tr_deed s x) := by
  unfold tr_deed
  by_cases h : isP s x
  · rw [if_pos h]
    obtain ⟨p, hp, rfl⟩ := isP_n hW h
    by_cases ha : isAw s (nI p).toNatClampNeg
    · rw [if_pos ha]
      by_cases hD : nD s < 10
      · rw [if_pos hD]; exact WF_deed hW hD hp
      · rw [if_neg hD]; exact hW
    · rw [if_neg ha]; exact hW
  · rw [if_neg h]; exact hW
theorem W_wed (hW : WF s) : WF (tr_wedq s x y) := by
  unfold tr_wedq
  by_cases h : okJo s x y
  · rw [if_pos h]
    obtain ⟨hx, hy, he⟩ := h
    obtain ⟨p, hp, rfl⟩ := isP_n hW hx
    obtain ⟨q, hq, rfl⟩ := isP_n hW hy
    by_cases ha : (isAw s (nI p).toNatClampNeg ∧ isAw s (nI q).toNatClampNeg) ∧ bit (acr s (nI p).toNatClampNeg) (nI q).toNatClampNeg = false
    · rw [if_pos ha]
      by_cases hV : nW s < 8
      · rw [if_pos hV]; exact WF_wed hW hV hp hq
      · rw [if_neg hV]; exact hW
    · rw [if_neg ha]; exact hW
  · rw [if_neg h]; exact hW
end G7s
