/-! ===== pays ===== -/
abbrev payO (s : Rw) (p k : Nat) : Prop := (k = 0 ∨ (k = 3 ∧ nE s < 18) ∨ (¬ k = 3 ∧ okR s)) ∧ (3 < k → ¬ k - 4 = p ∧ isAw s (k - 4))
def payS (s : Rw) (p k : Nat) : Rw := if k = 0 then s else if k = 1 then cpS s (nI p) (nI 2) (nI 0) (s 0) (nI 1) else if k = 2 then cpS s (nI p) (nI 3) (nI 1) (s 0) (nI 1) else if k = 3 then enS s p else joS s p (k - 4)
def payQ (s : Rw) (p k : Nat) : Nat := if k ≤ 3 then p else nP s
noncomputable def payV (s : Rw) (p k : Nat) : Nat := sumU (payS s p k) (payQ s p k) (nI 0) (nC (payS s p k)) / WH
noncomputable def payU (s : Rw) (p : Nat) : Nat → Nat → Nat → Nat → Nat × Nat
  | 0, _, b, l => (b, l)
  | n + 1, k, b, l => @ite _ (payO s p k ∧ payV s p k < l) (Classical.propDecidable _) (payU s p n (k + 1) k (payV s p k)) (payU s p n (k + 1) b l)
noncomputable def v_pays (s : Rw) (x y : Int32) : Int64 := if isP s x ∧ ¬ y < 0 ∧ ¬ nI 1 < y then (if isAw s x.toNatClampNeg then (if y = 0 then lN (payU s x.toNatClampNeg (3 + nP s) 1 0 (payV s x.toNatClampNeg 0)).1 else lN (payU s x.toNatClampNeg (3 + nP s) 1 0 (payV s x.toNatClampNeg 0)).2) else Int64.ofInt (-4)) else Int64.ofInt (-1)
section I12s
variable {I I' : mI} {J : mJ} {s t : Rw} {d k n q p i c m b l : Nat} {a x y z u v w : Int32}
theorem payU_s : payU s p (n + 1) k b l = @ite _ (payO s p k ∧ payV s p k < l) (Classical.propDecidable _) (payU s p n (k + 1) k (payV s p k)) (payU s p n (k + 1) b l) := rfl
theorem payU_t (h : payO s p k ∧ payV s p k < l) : payU s p (n + 1) k b l = payU s p n (k + 1) k (payV s p k) := by rw [payU_s]; exact if_pos h
theorem payU_f (h : ¬ (payO s p k ∧ payV s p k < l)) : payU s p (n + 1) k b l = payU s p n (k + 1) b l := by rw [payU_s]; exact if_neg h
theorem payU_0 : ∀ n k, payU s p n k b 0 = (b, 0)
  | 0, _ => rfl
  | n + 1, k => by rw [payU_f (fun h => Nat.not_lt_zero _ h.2)]; exact payU_0 n (k + 1)
theorem day_ok (hW : WF s) : ¬ s 0 < 0 ∧ ¬ s 0 < s 0 := by
  obtain ⟨e, h, h2⟩ := hW.day
  rw [h2]
  exact ⟨nI_pos (by omega), Int32.lt_irrefl⟩
theorem isP_nI (hW : WF s) (hp : p < nP s) : isP s (nI p) := by
  have h12 := hW.nP.1
  exact ⟨nI_pos (by omega), by rw [hW.nP.2, n_lt (by omega) (by omega)]; exact hp⟩
theorem cntA_le : ∀ n p, cntA s n p ≤ n
  | 0, _ => Nat.le_refl _
  | n + 1, p => by
    have ih := cntA_le n (p + 1)
    unfold cntA
    split <;> omega
theorem awk_le (s : Rw) : awk s ≤ nP s := cntA_le _ _
theorem aw6 (h : isAw s p) : ¬ pF s p 0 = nI 6 := fun e => h.2 (by rw [e]; decide)
theorem pay_cp1 (hW : WF s) (hp : p < nP s) : okCp s (nI p) (nI 2) (nI 0) (s 0) := ⟨isP_nI hW hp, Or.inl rfl, fun h => absurd h (by decide), (day_ok hW).1, (day_ok hW).2⟩
theorem pay_cp2 (hW : WF s) (hp : p < nP s) : okCp s (nI p) (nI 3) (nI 1) (s 0) := ⟨isP_nI hW hp, Or.inr (Or.inl rfl), fun _ => ⟨by decide, by decide⟩, (day_ok hW).1, (day_ok hW).2⟩
theorem pay_W (hW : WF s) (hp : p < nP s) (ha : isAw s p) (hk : k < 4 + nP s) (ho : payO s p k) : WF (payS s p k) := by
  unfold payS
  by_cases k0 : k = 0
  · rw [if_pos k0]; exact hW
  · rw [if_neg k0]
    obtain ⟨o1, o2⟩ := ho
    have o3 : ¬ k = 3 → okR s := fun h => by
      rcases o1 with e | e | e
      · exact absurd e k0
      · exact absurd e.1 h
      · exact e.2
    by_cases k1 : k = 1
    · rw [if_pos k1]; exact WF_copy hW (o3 (by omega)) (pay_cp1 hW hp) hp ha
    · rw [if_neg k1]
      by_cases k2 : k = 2
      · rw [if_pos k2]; exact WF_copy hW (o3 (by omega)) (pay_cp2 hW hp) hp ha
      · rw [if_neg k2]
        by_cases k3 : k = 3
        · rw [if_pos k3]
          refine WF_end hW hp (aw6 ha) ?_
          rcases o1 with e | e | e
          · exact absurd e k0
          · exact e.2
          · exact absurd k3 e.1
        · rw [if_neg k3]
          obtain ⟨o4, o5⟩ := o2 (by omega)
          exact WF_join hW (o3 k3) hp (by omega) (fun e => o4 e.symm) ha o5
theorem pay_hi (hW : WF s) (hp : p < nP s) (hk : k < 4 + nP s) (ho : payO s p k) : hiS (payS s p k) s := by
  have h12 := hW.nP.1
  unfold payS
  by_cases k0 : k = 0
  · rw [if_pos k0]; exact hiS_r
  · rw [if_neg k0]
    obtain ⟨o1, o2⟩ := ho
    have o3 : ¬ k = 3 → okR s := fun h => by
      rcases o1 with e | e | e
      · exact absurd e k0
      · exact absurd e.1 h
      · exact e.2
    by_cases k1 : k = 1
    · rw [if_pos k1]
      have o := o3 (by omega)
      have := o.1
      unfold cpS
      exact hiS_s (hiS_s (hiS_s (hiS_co o) (by omega)) (by omega)) (by omega)
    · rw [if_neg k1]
      by_cases k2 : k = 2
      · rw [if_pos k2]
        have o := o3 (by omega)
        have := o.1
        unfold cpS
        exact hiS_s (hiS_s (hiS_s (hiS_co o) (by omega)) (by omega)) (by omega)
      · rw [if_neg k2]
        by_cases k3 : k = 3
        · rw [if_pos k3]
          have hE : nE s < 18 := by
            rcases o1 with e | e | e
            · exact absurd e k0
            · exact e.2
            · exact absurd k3 e.1
          exact hiS_ev (hiS_s hiS_r (by omega)) (by rw [nE_set (by omega)]; exact hE)
        · rw [if_neg k3]
          have o := o3 k3
          unfold joS
          exact hiS_s (hiS_s (hiS_s (hiS_s (hiS_co o) (by omega)) (by omega)) (by omega)) (by omega)
theorem pay_q (hW : WF s) (hp : p < nP s) (ho : payO s p k) : payQ s p k < 12 := by
  have h12 := hW.nP.1
  unfold payQ
  by_cases h : k ≤ 3
  · rw [if_pos h]; omega
  · rw [if_neg h]
    rcases ho.1 with e | e | e
    · omega
    · omega
    · exact e.2.1
theorem k118 (hR : Rep I 1 s) (hW : WF s) (hp : p < nP s) (ha : isAw s p) (hk1 : 1 ≤ k) (hk : k < 4 + nP s) : ∃ I' v, FW 127 I' I ∧ ((payO s p k ∧ v = nI (payQ s p k) ∧ Rep I' 127 (payS s p k)) ∨ (¬ payO s p k ∧ v < 0)) ∧ am_cal (d + 7) 118 [.ref 0, .int (nI p), .int (nI k)] (mS I J) = some (some (.int v), mS I' J) := by
  have h12 := hW.nP.1
  obtain ⟨I1, a1, a2, a3⟩ := k64 (d := d + 4) (J := J) W127 W1 (by decide) hR hW
  have e0 : am_cal (d + 7) 118 [.ref 0, .int (nI p), .int (nI k)] (mS I J) = _ := c_118 lc_0
  simp only [lc_0, lr_0_0, lr_0_2, bq_s, mS_c, mS_l, mS_r, mS_i, mS_j, mS_pi, mS_pj, lt_st, bq_s, bV_s, bI_s, bJ_s, bA_s, nz_0, nc_0, nz_1, nc_1, nz_2, nc_2, nz_3, nc_3, nz_4, nc_4, nz_5, nc_5, nz_6, nc_6, nz_7, nc_7, nz_8, nc_8, nz_9, nc_9, nz_10, nc_10, nz_11, nc_11, nz_12, nc_12, if_true, if_false, eq_self, true_and, and_true, false_or, or_false, true_or, or_true, false_and, and_false, not_true, not_false_eq_true, ne_eq, ite_self, ite_not, ↓reduceIte, n_101, n_107, n_11] at e0
  rw [show d + 6 = d + 4 + 2 from rfl, a3, bV_s] at e0
  have hd : I1 127 8 = s 0 := a2.day
  have hneg : Int32.ofInt (-2) < 0 := by decide
  have hneg4 : Int32.ofInt (-4) < 0 := by decide
  have npos : ∀ n, n ≤ 12 → ¬ nI n < 0 := fun n hn => nI_pos (by omega)
  have kn : ∀ j, j < 4 → (nI k = nI j) = (k = j) := fun j hj => n_eq (by omega) (by omega)
  unfold payS payQ
  simp only [lc_0, lr_0_2, w_C W127, hd, kn 1 (by decide), kn 2 (by decide), kn 3 (by decide), bq_s, mS_c, mS_l, mS_r, mS_i, mS_j, mS_pi, mS_pj, lt_st, bq_s, bV_s, bI_s, bJ_s, bA_s, nz_0, nc_0, nz_1, nc_1, nz_2, nc_2, nz_3, nc_3, nz_4, nc_4, nz_5, nc_5, nz_6, nc_6, nz_7, nc_7, nz_8, nc_8, nz_9, nc_9, nz_10, nc_10, nz_11, nc_11, nz_12, nc_12, if_true, if_false, eq_self, true_and, and_true, false_or, or_false, true_or, or_true, false_and, and_false, not_true, not_false_eq_true, ne_eq, ite_self, ite_not, ↓reduceIte, n_101, n_107, n_11] at e0
  by_cases k1 : k = 1
  · subst k1
    rw [if_pos rfl] at e0
    obtain ⟨I2, b1, b2, b3⟩ := k74 (d := d) (J := J) (v := nI 1) W127 a2 hW hp (pay_cp1 hW hp) ha (Or.inr (by decide))
    rw [show d + 4 + 2 = d + 6 from rfl, b3, bI_s] at e0
    by_cases ho : okR s
    · rw [if_pos ho] at b2
      rw [if_pos ho, if_neg (npos _ h12)] at e0
      exact ⟨I2, nI p, fun a h => by rw [b1 a h, a1 a h], Or.inl ⟨⟨Or.inr (Or.inr ⟨by decide, ho⟩), fun h => by omega⟩, rfl, b2⟩, e0⟩
    · rw [if_neg ho, if_pos hneg] at e0
      exact ⟨I2, _, fun a h => by rw [b1 a h, a1 a h], Or.inr ⟨fun h => by rcases h.1 with e | e | e; omega; omega; exact ho e.2, hneg⟩, e0⟩
  · rw [if_neg k1] at e0
    by_cases k2 : k = 2
    · subst k2
      rw [if_pos rfl] at e0
      obtain ⟨I2, b1, b2, b3⟩ := k74 (d := d) (J := J) (v := nI 1) W127 a2 hW hp (pay_cp2 hW hp) ha (Or.inr (by decide))
      rw [show d + 4 + 2 = d + 6 from rfl, b3, bI_s] at e0
      by_cases ho : okR s
      · rw [if_pos ho] at b2
        rw [if_pos ho, if_neg (npos _ h12)] at e0
        exact ⟨I2, nI p, fun a h => by rw [b1 a h, a1 a h], Or.inl ⟨⟨Or.inr (Or.inr ⟨by decide, ho⟩), fun h => by omega⟩, rfl, b2⟩, e0⟩
      · rw [if_neg ho, if_pos hneg] at e0
        exact ⟨I2, _, fun a h => by rw [b1 a h, a1 a h], Or.inr ⟨fun h => by rcases h.1 with e | e | e; omega; omega; exact ho e.2, hneg⟩, e0⟩
    · rw [if_neg k2] at e0
      by_cases k3 : k = 3
      · subst k3
        rw [if_pos rfl] at e0
        obtain ⟨I2, b1, b2, b3⟩ := k77 (d := d + 3) (J := J) W127 a2 hW hp (aw6 ha)
        rw [show d + 4 + 2 = d + 3 + 3 from rfl, b3, bI_s] at e0
        by_cases ho : nE s < 18
        · rw [if_pos ho] at b2
          have hWe := WF_end hW hp (aw6 ha) ho
          have hawk : awk (enS s p) ≤ 12 := Nat.le_trans (awk_le (enS s p)) hWe.nP.1
          rw [if_pos ho, if_neg (npos _ hawk)] at e0
          exact ⟨I2, nI p, fun a h => by rw [b1 a h, a1 a h], Or.inl ⟨⟨Or.inr (Or.inl ⟨rfl, ho⟩), fun h => by omega⟩, rfl, b2⟩, e0⟩
        · rw [if_neg ho, if_pos hneg] at e0
          exact ⟨I2, _, fun a h => by rw [b1 a h, a1 a h], Or.inr ⟨fun h => by rcases h.1 with e | e | e; omega; exact ho e.2; exact e.1 rfl, hneg⟩, e0⟩
      · rw [if_neg k3, n_sub (show 4 ≤ k by omega)] at e0
        simp only [n_eq (show k - 4 < 2 ^ 31 by omega) (show p < 2 ^ 31 by omega)] at e0
        have f1 : FW 127 I1 I := a1
        by_cases kp : k - 4 = p
        · rw [if_pos kp] at e0
          exact ⟨I1, _, a1, Or.inr ⟨fun h => (h.2 (by omega)).1 kp, hneg4⟩, e0⟩
        · rw [if_neg kp] at e0
          rw [show d + 4 + 2 = d + 5 + 1 from rfl, k65 W127 a2, bI_s, if_pos (isP_nI hW (show k - 4 < nP s by omega)), if_neg (by decide)] at e0
          simp only [lc_0, lr_0_2, bq_s, mS_c, mS_l, mS_r, mS_i, mS_j, mS_pi, mS_pj, lt_st, bq_s, bV_s, bI_s, bJ_s, bA_s, nz_0, nc_0, nz_1, nc_1, nz_2, nc_2, nz_3, nc_3, nz_4, nc_4, nz_5, nc_5, nz_6, nc_6, nz_7, nc_7, nz_8, nc_8, nz_9, nc_9, nz_10, nc_10, nz_11, nc_11, nz_12, nc_12, if_true, if_false, eq_self, true_and, and_true, false_or, or_false, true_or, or_true, false_and, and_false, not_true, not_false_eq_true, ne_eq, ite_self, ite_not, ↓reduceIte, n_101, n_107, n_11] at e0
          rw [show d + 4 + 2 = d + 5 + 1 from rfl, k68 W127 a2 hW (show k - 4 < nP s by omega), bI_s] at e0
          by_cases hq : isAw s (k - 4)
          · rw [if_pos hq, if_neg (by decide)] at e0
            simp only [lc_0, lr_0_2, bq_s, mS_c, mS_l, mS_r, mS_i, mS_j, mS_pi, mS_pj, lt_st, bq_s, bV_s, bI_s, bJ_s, bA_s, nz_0, nc_0, nz_1, nc_1, nz_2, nc_2, nz_3, nc_3, nz_4, nc_4, nz_5, nc_5, nz_6, nc_6, nz_7, nc_7, nz_8, nc_8, nz_9, nc_9, nz_10, nc_10, nz_11, nc_11, nz_12, nc_12, if_true, if_false, eq_self, true_and, and_true, false_or, or_false, true_or, or_true, false_and, and_false, not_true, not_false_eq_true, ne_eq, ite_self, ite_not, ↓reduceIte, n_101, n_107, n_11] at e0
            obtain ⟨I2, b1, b2, b3⟩ := k75 (d := d + 2) (J := J) W127 a2 hW hp (show k - 4 < nP s by omega) (fun e => kp e.symm) ha hq
            rw [show d + 4 + 2 = d + 2 + 4 from rfl, b3, bI_s] at e0
            rw [if_neg (show ¬ k = 0 by omega), if_neg k1, if_neg k2, if_neg k3, if_neg (show ¬ k ≤ 3 by omega)]
            by_cases ho : okR s
            · rw [if_pos ho] at b2 e0
              exact ⟨I2, _, fun a h => by rw [b1 a h, a1 a h], Or.inl ⟨⟨Or.inr (Or.inr ⟨k3, ho⟩), fun _ => ⟨kp, hq⟩⟩, rfl, b2⟩, e0⟩
            · rw [if_neg ho] at e0
              exact ⟨I2, _, fun a h => by rw [b1 a h, a1 a h], Or.inr ⟨fun h => by rcases h.1 with e | e | e; omega; omega; exact ho e.2, hneg⟩, e0⟩
          · rw [if_neg hq, if_pos nI_0] at e0
            exact ⟨I1, _, a1, Or.inr ⟨fun h => hq (h.2 (by omega)).2, hneg4⟩, e0⟩
end I12s
