/-! ===== beyond its 546 places the row stays as it is ===== -/
section H4s
variable {s s' t : Rw} {p q e c d k n : Nat} {x y z u v sort key : Int32}
def hiS (s' s : Rw) : Prop := ∀ j, 546 ≤ j → s' j = s j
theorem hiS_r : hiS s s := fun _ _ => rfl
theorem hiS_s (h : hiS s' s) (hk : k < 546) : hiS (rset s' k x) s := fun j hj => by rw [rset_n (by omega)]; exact h j hj
theorem hiS_ev (h : hiS t s) (hE : nE t < 18) : hiS (evS t sort x) s := fun j hj => by rw [evS_o (by omega) (by omega)]; exact h j hj
theorem hiS_pe (hn : n < 12) : hiS (peS s n x y z u) s := by
  unfold peS
  exact hiS_s (hiS_s (hiS_s (hiS_s (hiS_s (hiS_s (hiS_s (hiS_s (hiS_s (hiS_s hiS_r (by omega)) (by omega)) (by omega)) (by omega)) (by omega)) (by omega)) (by omega)) (by omega)) (by omega)) (by omega)
theorem hiS_co (hR : okR s) : hiS (coS s sort x y z) s := by
  have h12 := hR.1
  have h18 := hR.2
  have hn : nE (rset (peS s (nP s) x y z (nI (nE s))) 1 (nI (nP s + 1))) = nE s := by
    unfold nE peS
    repeat rw [rset_n (by omega)]
  unfold coS
  exact hiS_ev (hiS_s (hiS_pe h12) (by decide)) (by rw [hn]; exact h18)
theorem hiS_later : hiS (tr_later s x) s := by
  unfold tr_later
  by_cases h : ¬ x < nI 1 ∧ ¬ nI 99 < x
  · rw [if_pos h]
    by_cases h3 : nI 999 < s 0 + x
    · rw [if_pos h3]; exact hiS_r
    · rw [if_neg h3]; exact hiS_s hiS_r (by decide)
  · rw [if_neg h]; exact hiS_r
theorem hiS_born : hiS (tr_born s) s := by
  unfold tr_born
  by_cases h : okR s
  · rw [if_pos h]; exact hiS_co h
  · rw [if_neg h]; exact hiS_r
theorem hiS_copied : hiS (tr_copied s x y z u v) s := by
  unfold tr_copied
  by_cases h : okCp s x y z u
  · rw [if_pos h]
    by_cases ha : isAw s x.toNatClampNeg
    · rw [if_pos ha]
      by_cases ho : okR s
      · rw [if_pos ho]
        have h12 := ho.1
        unfold cpS
        exact hiS_s (hiS_s (hiS_s (hiS_co ho) (by omega)) (by omega)) (by omega)
      · rw [if_neg ho]; exact hiS_r
    · rw [if_neg ha]; exact hiS_r
  · rw [if_neg h]; exact hiS_r
theorem hiS_wake (hW : WF s) : hiS (tr_wake s x) s := by
  unfold tr_wake
  by_cases h : isP s x
  · rw [if_pos h]
    obtain ⟨p, hp, rfl⟩ := isP_n hW h
    have h12 := hW.nP.1
    rw [nI_clamp (show p < 2 ^ 31 by omega)]
    by_cases h5 : pF s p 0 = nI 5
    · rw [if_pos h5]
      by_cases hE : nE s < 18
      · rw [if_pos hE]
        exact hiS_ev (hiS_s hiS_r (by omega)) (by rw [nE_set (by omega)]; exact hE)
      · rw [if_neg hE]; exact hiS_r
    · rw [if_neg h5]; exact hiS_r
  · rw [if_neg h]; exact hiS_r
theorem hiS_join (hW : WF s) : hiS (tr_join s x y) s := by
  unfold tr_join
  by_cases h : okJo s x y
  · rw [if_pos h]
    obtain ⟨hx, hy, he⟩ := h
    obtain ⟨p, hp, rfl⟩ := isP_n hW hx
    obtain ⟨q, hq, rfl⟩ := isP_n hW hy
    have h12 := hW.nP.1
    rw [nI_clamp (show p < 2 ^ 31 by omega), nI_clamp (show q < 2 ^ 31 by omega)]
    by_cases ha : isAw s p ∧ isAw s q
    · rw [if_pos ha]
      by_cases ho : okR s
      · rw [if_pos ho]
        unfold joS
        exact hiS_s (hiS_s (hiS_s (hiS_s (hiS_co ho) (by omega)) (by omega)) (by omega)) (by omega)
      · rw [if_neg ho]; exact hiS_r
    · rw [if_neg ha]; exact hiS_r
  · rw [if_neg h]; exact hiS_r
theorem hiS_end (hW : WF s) : hiS (tr_end s x) s := by
  unfold tr_end
  by_cases h : isP s x
  · rw [if_pos h]
    obtain ⟨p, hp, rfl⟩ := isP_n hW h
    have h12 := hW.nP.1
    rw [nI_clamp (show p < 2 ^ 31 by omega)]
    by_cases h5 : pF s p 0 = nI 6
    · rw [if_pos h5]; exact hiS_r
    · rw [if_neg h5]
      by_cases hE : nE s < 18
      · rw [if_pos hE]
        exact hiS_ev (hiS_s hiS_r (by omega)) (by rw [nE_set (by omega)]; exact hE)
      · rw [if_neg hE]; exact hiS_r
  · rw [if_neg h]; exact hiS_r
theorem hiS_claim : hiS (tr_claim s x y z) s := by
  unfold tr_claim
  by_cases h : okCl s x y z
  · rw [if_pos h]
    by_cases ha : isAw s y.toNatClampNeg
    · rw [if_pos ha]
      by_cases hC : nC s < 12
      · rw [if_pos hC]
        exact fun j hj => (clS_f hC).1 j (by omega) (by omega)
      · rw [if_neg hC]; exact hiS_r
    · rw [if_neg ha]; exact hiS_r
  · rw [if_neg h]; exact hiS_r
theorem hiS_deed : hiS (tr_deed s x) s := by
  unfold tr_deed
  by_cases h : isP s x
  · rw [if_pos h]
    by_cases ha : isAw s x.toNatClampNeg
    · rw [if_pos ha]
      by_cases hC : nD s < 10
      · rw [if_pos hC]
        exact fun j hj => (ddS_f hC).1 j (by omega) (by omega)
      · rw [if_neg hC]; exact hiS_r
    · rw [if_neg ha]; exact hiS_r
  · rw [if_neg h]; exact hiS_r
theorem hiS_wed : hiS (tr_wedq s x y) s := by
  unfold tr_wedq
  by_cases h : okJo s x y
  · rw [if_pos h]
    by_cases ha : (isAw s x.toNatClampNeg ∧ isAw s y.toNatClampNeg) ∧ bit (acr s x.toNatClampNeg) y.toNatClampNeg = false
    · rw [if_pos ha]
      by_cases hC : nW s < 8
      · rw [if_pos hC]
        exact fun j hj => (wdS_f hC).1 j (by omega) (by omega)
      · rw [if_neg hC]; exact hiS_r
    · rw [if_neg ha]; exact hiS_r
  · rw [if_neg h]; exact hiS_r
end H4s
