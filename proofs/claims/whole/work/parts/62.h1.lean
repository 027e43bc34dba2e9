/-! ===== copying: rows, persons, the law ===== -/
def cpA (I : mI) (a b n : Nat) : mI := fun c j => if c = b ∧ j < n then I a j else I c j
section H1s
variable {I I' : mI} {J : mJ} {s s' : Rw} {w p q e c d k n g a b l m : Nat} {x y z u v sort key : Int32}
theorem cpA_n (h : c ≠ b) : cpA I a b n c = I c := funext fun _ => if_neg fun hh => h hh.1
theorem cpA_e {j : Nat} (h : j < n) : cpA I a b n b j = I a j := if_pos ⟨rfl, h⟩
theorem cpA_o {j : Nat} (h : ¬ j < n) : cpA I a b n b j = I b j := if_neg fun hh => h hh.2
theorem up_cpA : am_up I b (va_cpy (I a) (I b) 0 0 n) = cpA I a b n := by
  funext c j
  unfold am_up cpA va_cpy
  by_cases h : c = b
  · subst h
    by_cases hj : j < n
    · rw [if_pos rfl, if_pos ⟨Nat.zero_le _, by omega⟩, if_pos ⟨rfl, hj⟩]
      congr 1; omega
    · rw [if_pos rfl, if_neg (fun hh => hj (by omega)), if_neg (fun hh => hj hh.2)]
  · rw [if_neg h, if_neg (fun hh => h hh.1)]
theorem crun_ag {A B : Rw} {f : Rw} : ∀ (n k : Nat) (t : Int32), (∀ j, k ≤ j → j < k + n → A j = B j) → crun A f n k t = crun B f n k t
  | 0, _, _, _ => rfl
  | n + 1, k, t, h => by
    have e : cst A f k t = cst B f k t := by unfold cst; rw [h k (by omega) (by omega)]
    show crun A f n (k + 1) (cst A f k t) = crun B f n (k + 1) (cst B f k t)
    rw [e]
    exact crun_ag n (k + 1) _ fun j h1 h2 => h j (by omega) (by omega)
theorem wfc_ag {A B : Rw} (h : A k = B k) : wfc A k → wfc B k := by
  intro hh
  unfold wfc at hh ⊢
  rw [← h]; exact hh
/-- the law of m, copied to l -/
theorem k14 (hl : isL l) (hm : isL m) (hlm : l + 5 ≤ m ∨ m + 5 ≤ l) (hL : RepL I m s) (h10 : nL s ≤ 10) (h6 : s 6 = nI (nL s)) : ∃ I', (∀ a, a < l ∨ l + 5 ≤ a → I' a = I a) ∧ RepL I' l s ∧ am_cal (d + 1) 14 [.ref l, .ref m] (mS I J) = some (none, mS I' J) := by
  obtain ⟨r1, t, r2, r3⟩ := hL
  have mono : ∀ n i, i + n = nL s → t i ≤ t (nL s) := by
    intro n
    induction n with
    | zero => intro i hi; have : i = nL s := by omega
              rw [this]; exact Nat.le_refl _
    | succ n ih => intro i hi; exact Nat.le_trans (r3 i (by omega)).1 (ih (i + 1) (by omega))
  have tL := (r2 (nL s) (Nat.le_refl _)).2
  have tI := (r2 (nL s) (Nat.le_refl _)).1
  have i4 : I m 4 = nI (nL s) := r1.trans h6
  generalize hI1 : wI I l 4 (nI (nL s)) = I1
  have o1 : ∀ a, a ≠ l → I1 a = I a := fun a ha => by rw [← hI1]; exact wI_F1 a ha
  have e1 : I1 l 4 = nI (nL s) := by rw [← hI1]; exact wI_eq
  generalize hI2 : cpA I1 (m + 1) (l + 1) (nL s) = I2
  have o2 : ∀ a, a ≠ l + 1 → I2 a = I1 a := fun a ha => by rw [← hI2]; exact cpA_n ha
  generalize hI3 : cpA I2 (m + 2) (l + 2) (nL s) = I3
  have o3 : ∀ a, a ≠ l + 2 → I3 a = I2 a := fun a ha => by rw [← hI3]; exact cpA_n ha
  generalize hI4 : cpA I3 (m + 3) (l + 3) (nL s + 1) = I4
  have o4 : ∀ a, a ≠ l + 3 → I4 a = I3 a := fun a ha => by rw [← hI4]; exact cpA_n ha
  generalize hI5 : cpA I4 (m + 4) (l + 4) (t (nL s)) = I5
  have o5 : ∀ a, a ≠ l + 4 → I5 a = I4 a := fun a ha => by rw [← hI5]; exact cpA_n ha
  have c1 : ∀ j, j < nL s → I5 (l + 1) j = I (m + 1) j := fun j hj => by
    rw [o5 _ (by omega), o4 _ (by omega), o3 _ (by omega), ← hI2, cpA_e hj, o1 _ (by omega)]
  have c2 : ∀ j, j < nL s → I5 (l + 2) j = I (m + 2) j := fun j hj => by
    rw [o5 _ (by omega), o4 _ (by omega), ← hI3, cpA_e hj, o2 _ (by omega), o1 _ (by omega)]
  have c3 : ∀ j, j < nL s + 1 → I5 (l + 3) j = I (m + 3) j := fun j hj => by
    rw [o5 _ (by omega), ← hI4, cpA_e hj, o3 _ (by omega), o2 _ (by omega), o1 _ (by omega)]
  have c4 : ∀ j, j < t (nL s) → I5 (l + 4) j = I (m + 4) j := fun j hj => by
    rw [← hI5, cpA_e hj, o4 _ (by omega), o3 _ (by omega), o2 _ (by omega), o1 _ (by omega)]
  refine ⟨I5, fun a ha => by rw [o5 a (by omega), o4 a (by omega), o3 a (by omega), o2 a (by omega), o1 a (by omega)], ⟨?_, t, fun i hi => ⟨?_, (r2 i hi).2⟩, fun i hi => ?_⟩, ?_⟩
  · rw [o5 l (by omega), o4 l (by omega), o3 l (by omega), o2 l (by omega), e1, h6]
  · rw [c3 i (by omega)]; exact (r2 i hi).1
  · obtain ⟨a1, a2, a3, a4, a5⟩ := r3 i hi
    have ml := mono (nL s - (i + 1)) (i + 1) (by omega)
    refine ⟨a1, by rw [c1 i hi]; exact a2, by rw [c2 i hi]; exact a3, fun k h1 h2 => wfc_ag (c4 k (by omega)).symm (a4 k h1 h2), fun f => ?_⟩
    rw [crun_ag (t (i + 1) - t i) (t i) (nI 1) fun j h1 h2 => c4 j (by omega)]
    exact a5 f
  · have hz : (nI (nL s) < 0) = False := n_ge0 (by omega)
    have hz1 : (nI (nL s + 1) < 0) = False := n_ge0 (by omega)
    have hzt : (nI (t (nL s)) < 0) = False := n_ge0 (by omega)
    have hc : (nI (nL s)).toNatClampNeg = nL s := nI_clamp (by omega)
    have hc1 : (nI (nL s + 1)).toNatClampNeg = nL s + 1 := nI_clamp (by omega)
    have hct : (nI (t (nL s))).toNatClampNeg = t (nL s) := nI_clamp (by omega)
    have z0 : (nI 0 < 0) = False := n_ge0 (by decide)
    have q1 : (10 < 0 + nL s) = False := eq_false (by omega)
    have q2 : (11 < 0 + (nL s + 1)) = False := eq_false (by omega)
    have q3 : (200 < 0 + t (nL s)) = False := eq_false (by omega)
    have q4 : (11 ≤ nL s) = False := eq_false (by omega)
    have f2 : I2 l 4 = nI (nL s) := by rw [o2 l (by omega), e1]
    have f3 : I3 l 4 = nI (nL s) := by rw [o3 l (by omega), f2]
    have f4 : I4 l 4 = nI (nL s) := by rw [o4 l (by omega), f3]
    have ft : I4 (l + 3) (nL s) = nI (t (nL s)) := by
      rw [← hI4, cpA_e (by omega), o3 _ (by omega), o2 _ (by omega), o1 _ (by omega)]; exact tI
    rw [c_14 (l_C hl)]
    simp only [l_C hl, l_C hm, l_R0 hl, l_R0 hm, l_R1 hl, l_R1 hm, l_R2 hl, l_R2 hm, l_R3 hl, l_R3 hm, l_C1 hl, l_C1 hm, l_C2 hl, l_C2 hm, l_C3 hl, l_C3 hm, l_C4 hl, l_C4 hm, l_L1 hl, l_L1 hm, l_L2 hl, l_L2 hm, l_L3 hl, l_L3 hm, l_L4 hl, l_L4 hm, i4, hI1, e1, hz, hz1, hzt, hc, hc1, hct, z0, q1, q2, q3, q4, nI_add, mS_cp, up_cpA, hI2, f2, hI3, f3, hI4, f4, ft, hI5, show (0 ≤ 8) = True from eq_true (by decide), bq_s, mS_c, mS_l, mS_r, mS_i, mS_j, mS_pi, mS_pj, lt_st, bq_s, bV_s, bI_s, bJ_s, bA_s, nz_0, nc_0, nz_1, nc_1, nz_2, nc_2, nz_3, nc_3, nz_4, nc_4, nz_5, nc_5, nz_6, nc_6, nz_7, nc_7, nz_8, nc_8, nz_9, nc_9, nz_10, nc_10, nz_11, nc_11, nz_12, nc_12, if_true, if_false, eq_self, true_and, and_true, false_or, or_false, true_or, or_true, false_and, and_false, not_true, not_false_eq_true, ne_eq, ite_self, ite_not, ↓reduceIte, n_101, n_107, n_11]
end H1s
