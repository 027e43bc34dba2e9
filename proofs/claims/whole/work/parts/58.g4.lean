/-! ===== the class: two become one ===== -/
section G4s
variable {I I' : mI} {J : mJ} {s s' : Rw} {w p q e c d k n g : Nat} {x y z u v sort key : Int32}
theorem joS_7 (hp : p < 12) : joS s p q 7 = s 7 := by
  unfold joS
  rw [rset_n (by omega), rset_n (by omega), rset_n (by omega), rset_n (by omega)]
  exact coS_7
theorem joS_56 (hR : okR s) (hp : p < nP s) (hq : q < nP s) : pF (joS s p q) (nP s) 5 = m9 ∧ pF (joS s p q) (nP s) 6 = m9 := by
  have h := coS_56 (sort := nI 3) (x := nI 4) (y := nI p) (z := nI q) hR
  refine ⟨?_, ?_⟩
  · rw [← h.1]
    show joS s p q (10 + 10 * nP s + 5) = coS s (nI 3) (nI 4) (nI p) (nI q) (10 + 10 * nP s + 5)
    unfold joS
    rw [rset_n (by omega), rset_n (by omega), rset_n (by omega), rset_n (by omega)]
  · rw [← h.2]
    show joS s p q (10 + 10 * nP s + 6) = coS s (nI 3) (nI 4) (nI p) (nI q) (10 + 10 * nP s + 6)
    unfold joS
    rw [rset_n (by omega), rset_n (by omega), rset_n (by omega), rset_n (by omega)]
theorem k75 (hw : isW w) (hR : Rep I w s) (hW : WF s) (hp : p < nP s) (hq : q < nP s) (hpq : p ≠ q) (ha : isAw s p) (hb : isAw s q) : ∃ I', FW w I' I ∧ Rep I' w (if okR s then joS s p q else s) ∧ am_cal (d + 4) 75 [.ref w, .int (nI p), .int (nI q)] (mS I J) = some (some (.int (if okR s then nI (nP s) else Int32.ofInt (-2))), mS I' J) := by
  have h12 := hW.nP.1
  have h18 := hW.nE.1
  have h71 := k71 (d := d + 1) (J := J) hw hR
  rw [okR_if hW] at h71
  by_cases ho : okR s
  · have h9 : I w 9 = nI (nP s) := hR.ppl.trans hW.nP.2
    have h10 : I w 10 = nI (nE s) := hR.evs.trans hW.nE.2
    have h79a := k79 (d := d + 2) (I := I) (J := J) (x := nI (nP s)) hw (show p < 12 by omega)
    rw [h10] at h79a
    obtain ⟨a1, a2, a3, a4, a5⟩ := go_c (I := I) (w := w) (p := p) (x := nI (nP s)) (u := nI (nE s))
    generalize hI1 : goI I w p (nI (nP s)) (nI (nE s)) = I1 at a1 a2 a3 a4 a5 h79a
    have aw : I1 w = I w := a1 w (by omega)
    have h79b := k79 (d := d + 2) (I := I1) (J := J) (x := nI (nP s)) hw (show q < 12 by omega)
    rw [aw, h10] at h79b
    obtain ⟨b1, b2', b3, b4, b5⟩ := go_c (I := I1) (w := w) (p := q) (x := nI (nP s)) (u := nI (nE s))
    generalize hI2 : goI I1 w q (nI (nP s)) (nI (nE s)) = I2 at b1 b2' b3 b4 b5 h79b
    have bw : I2 w = I w := by rw [b1 w (by omega), aw]
    have h78 := k78 (d := d) (J := J) (I := I2) (x := nI 4) (sort := nI 3) hw ho.1 ho.2 (by rw [bw]; exact h9) (by rw [bw]; exact h10)
    obtain ⟨t1, t2, t3, t4, t5, t6, t7, t8⟩ := new_c (I := I2) (w := w) (x := nI 4) (sort := nI 3) ho.1 ho.2
    generalize hI3 : newI I2 w (nP s) (nE s) (nI 4) (nI 3) = I3 at t1 t2 t3 t4 t5 t6 t7 t8 h78
    rw [bw] at t2 t7 t8
    obtain ⟨⟨hx, hr, hP, e1, hEE, e2, v0, v1, v2, p4, p7, p9, p01⟩, pf, ep0, eq0, ep7, eq7, p0, p1, p2, p3, p8⟩ := joS_NF hW ho hp hq hpq
    have h7 : joS s p q 7 = s 7 := joS_7 (by omega)
    have p56 := joS_56 ho hp hq
    have day : I w 8 = s 0 := hR.day
    generalize hs' : joS s p q = s' at *
    have hend : ∀ r, r < 12 → (endAt s' r (nE s) ↔ r = p ∨ r = q) := fun r hr2 => by
      refine ⟨fun h => ?_, fun h => Or.inr ⟨v0, nP s, by omega, v1, ?_⟩⟩
      · rcases h with ⟨h, _⟩ | ⟨_, j, hj, e, h⟩
        · exact absurd (h.symm.trans v0) (by decide)
        · have : j = nP s := (nI_eq (by omega) (by omega)).mp (e.symm.trans v1)
          subst this
          rcases h with h | h
          · exact Or.inl ((nI_eq (by omega) (by omega)).mp (h.symm.trans p2))
          · exact Or.inr ((nI_eq (by omega) (by omega)).mp (h.symm.trans p3))
      · rcases h with rfl | rfl
        · exact Or.inl p2
        · exact Or.inr p3
    have awk6 : ∀ r, isAw s r → ¬ pF s r 0 = nI 6 := fun r h h6 => h.2 (by rw [h6]; decide)
    have w4 : wI (wI I3 (w + 13 + nP s) 2 (nI p)) (w + 13 + nP s) 3 (nI q) = wI (wI I3 (w + 13 + nP s) 2 (nI p)) (w + 13 + nP s) 3 (nI q) := rfl
    generalize hI4 : wI (wI I3 (w + 13 + nP s) 2 (nI p)) (w + 13 + nP s) 3 (nI q) = I4 at w4
    have o4 : ∀ a, a ≠ w + 13 + nP s → I4 a = I3 a := fun a h => by rw [← hI4, wI_F1 a h, wI_F1 a h]
    have oP : ∀ r, r < nP s → I4 (w + 13 + r) = I2 (w + 13 + r) := fun r hr2 => by rw [o4 _ (by omega), t1 _ (by omega) (by omega) (by omega)]
    have oa : ∀ a, a ≠ w + 13 + nP s → a ≠ w + 13 + p → a ≠ w + 13 + q → a ≠ w → a ≠ w + 25 + nE s → I4 a = I a := fun a g1 g2 g3 g4 g5 => by rw [o4 a g1, t1 a g5 g4 g1, b1 a g3, a1 a g2]
    refine ⟨I4, fun a ha => oa a (by omega) (by omega) (by omega) (by omega) (by omega), ?_, ?_⟩
    · rw [if_pos ho]
      refine Rep_ev (s' := s') hR hW hx hr (by omega) hEE h7 ?_ ?_ (fun f a b => ?_) (fun r hr2 f hf a b cc => ?_) (fun r hr2 => ?_) (fun r hr2 => ⟨fun h => ?_, fun h => ?_⟩) (fun r hr2 h => ?_) (fun r h1 h2 => ?_) (fun e he => ?_) (fun f hf => ?_) (fun a ha => ?_)
      · rw [o4 w (by omega), t3]; exact e1.symm
      · rw [o4 w (by omega), t4]; exact e2.symm
      · rw [o4 w (by omega)]; exact t2 f a b
      · rw [oP r hr2]
        by_cases hrq : r = q
        · subst hrq
          rw [b2' f a b cc, a1 _ (by omega)]
        · rw [b1 _ (by omega)]
          by_cases hrp : r = p
          · subst hrp; exact a2 f a b cc
          · rw [a1 _ (by omega)]
      · rw [oP r hr2]
        by_cases hrq : r = q
        · subst hrq
          rw [b3, b4]; exact ⟨eq0.symm, eq7.symm⟩
        · rw [b1 _ (by omega)]
          by_cases hrp : r = p
          · subst hrp
            rw [a3, a4]; exact ⟨ep0.symm, ep7.symm⟩
          · rw [a1 _ (by omega), pf r 0 hr2 (by decide) hrp hrq, pf r 7 hr2 (by decide) hrp hrq]
            exact ⟨hR.pF hr2 (by decide), hR.pF hr2 (by decide)⟩
      · rw [oP r hr2]
        by_cases hrq : r = q
        · subst hrq; exact b5
        · rw [b1 _ (by omega)]
          have := ((hend r (by omega)).mp h).resolve_right hrq
          subst this; exact a5
      · rw [oP r hr2]
        have hh : ¬ (r = p ∨ r = q) := fun hh => h ((hend r (by omega)).mpr hh)
        rw [b1 _ (by omega), a1 _ (by omega)]
      · rcases (hend r (by omega)).mp h with rfl | rfl
        · exact awk6 _ ha
        · exact awk6 _ hb
      · have : r = nP s := by omega
        subst this
        have ne : ¬ endAt s' (nP s) (nE s) := fun h => by
          have := (hend (nP s) (by omega)).mp h
          omega
        have t9 : ∀ f, f ≠ 2 → f ≠ 3 → I4 (w + 13 + nP s) f = I3 (w + 13 + nP s) f := fun f a b => by rw [← hI4, wI_nk b, wI_nk a]
        refine ⟨fun f hf => ?_, ?_, ?_, ?_, fun e he h => absurd h (noNew hW ho hx hP hEE ne e he), fun _ => ?_⟩
        · rcases (show f = 0 ∨ f = 1 ∨ f = 2 ∨ f = 3 ∨ f = 4 ∨ f = 5 ∨ f = 6 ∨ f = 7 by omega) with rfl | rfl | rfl | rfl | rfl | rfl | rfl | rfl
          · rw [t9 0 (by decide) (by decide), t8 0 (by decide)]; exact p0.symm
          · rw [t9 1 (by decide) (by decide), t8 1 (by decide)]; exact p1.symm
          · rw [← hI4, wI_nk (by decide), wI_eq]; exact p2.symm
          · rw [← hI4, wI_eq]; exact p3.symm
          · rw [t9 4 (by decide) (by decide), t8 4 (by decide)]; exact day.trans p4.symm
          · rw [t9 5 (by decide) (by decide), t8 5 (by decide)]; exact p56.1.symm
          · rw [t9 6 (by decide) (by decide), t8 6 (by decide)]; exact p56.2.symm
          · rw [t9 7 (by decide) (by decide), t8 7 (by decide)]; exact p7.symm
        · rw [t9 9 (by decide) (by decide), t8 9 (by decide)]; exact p8.symm
        · rw [t9 10 (by decide) (by decide), t8 10 (by decide)]; exact (b2_f (fun h : isVd _ _ => by
            have := h.1; unfold isCp at this; rw [p1] at this; revert this; decide)).symm
        · rw [t9 11 (by decide) (by decide), t8 11 (by decide)]; exact (b2_f (fun h : isRs _ _ => by
            have := h.1; rw [p1] at this; revert this; decide)).symm
        · rw [t9 8 (by decide) (by decide), t8 8 (by decide)]; rfl
      · exact oa _ (by omega) (by omega) (by omega) (by omega) (by omega)
      · rw [o4 _ (by omega)]
        rcases (show f = 0 ∨ f = 1 ∨ f = 2 by omega) with rfl | rfl | rfl
        · rw [t5]; exact v0.symm
        · rw [t6]; exact v1.symm
        · rw [t7]; exact day.trans v2.symm
      · exact oa a (by omega) (by omega) (by omega) (by omega) (by omega)
    · have hn12 : nP s < 12 := ho.1
      have i0c : (nI (nP s)).toNatClampNeg = nP s := nI_clamp (by omega)
      have i0z : (nI (nP s) < 0) = False := n_ge0 (by omega)
      have i0l : (12 ≤ nP s) = False := n_lef (by omega)
      have i9 : I1 w 9 = nI (nP s) := by rw [aw]; exact h9
      rw [c_75 (w_C hw), h71, bI_s, if_pos ho, if_pos ho, if_neg (show ¬ nI 1 = (0 : Int32) by decide)]
      simp only [w_C hw, w_R0 hw, w_C1 hw, w_L1 hw, w_rp hw hn12, w_cp hw hn12, i0c, i0z, i0l, h9, i9, h79a, h79b, h78, hI4, n_101, nn_0_1, nn_0_2, nn_0_3, nn_0_4, nn_0_5, nn_0_6, nn_0_7, nn_0_8, nn_1_0, nn_1_2, nn_1_3, nn_1_4, nn_1_5, nn_1_6, nn_1_7, nn_1_8, nn_2_0, nn_2_1, nn_2_3, nn_2_4, nn_2_5, nn_2_6, nn_2_7, nn_2_8, nn_3_0, nn_3_1, nn_3_2, nn_3_4, nn_3_5, nn_3_6, nn_3_7, nn_3_8, nn_4_0, nn_4_1, nn_4_2, nn_4_3, nn_4_5, nn_4_6, nn_4_7, nn_4_8, nn_5_0, nn_5_1, nn_5_2, nn_5_3, nn_5_4, nn_5_6, nn_5_7, nn_5_8, nn_6_0, nn_6_1, nn_6_2, nn_6_3, nn_6_4, nn_6_5, nn_6_7, nn_6_8, nn_7_0, nn_7_1, nn_7_2, nn_7_3, nn_7_4, nn_7_5, nn_7_6, nn_7_8, nn_8_0, nn_8_1, nn_8_2, nn_8_3, nn_8_4, nn_8_5, nn_8_6, nn_8_7, nq_0, nq_1, nq_2, nq_3, nq_4, nq_5, nq_6, nq_7, nq_8, bq_s, mS_c, mS_l, mS_r, mS_i, mS_j, mS_pi, mS_pj, lt_st, bq_s, bV_s, bI_s, bJ_s, bA_s, nz_0, nc_0, nz_1, nc_1, nz_2, nc_2, nz_3, nc_3, nz_4, nc_4, nz_5, nc_5, nz_6, nc_6, nz_7, nc_7, nz_8, nc_8, nz_9, nc_9, nz_10, nc_10, nz_11, nc_11, nz_12, nc_12, if_true, if_false, eq_self, true_and, and_true, false_or, or_false, true_or, or_true, false_and, and_false, not_true, not_false_eq_true, ne_eq, ite_self, ite_not, ↓reduceIte, n_101, n_107, n_11]
  · refine ⟨I, fun _ _ => rfl, ?_, ?_⟩
    · rw [if_neg ho]; exact hR
    · rw [c_75 (w_C hw), h71, bI_s, if_neg ho, if_neg ho, if_pos nI_0]
end G4s
