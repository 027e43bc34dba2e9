/-! ===== numbers that are small; answers that are parted ===== -/
theorem n_ge0 {n : Nat} (h : n < 2 ^ 31) : (nI n < 0) = False := eq_false (nI_pos h)
theorem n_lt {a b : Nat} (ha : a < 2 ^ 31) (hb : b < 2 ^ 31) : (nI a < nI b) = (a < b) := propext (nI_ltI ha hb)
theorem n_le {a b : Nat} (ha : a < 2 ^ 31) (hb : b < 2 ^ 31) : (nI a ≤ nI b) = (a ≤ b) := propext (nI_leI ha hb)
theorem n_eq {a b : Nat} (ha : a < 2 ^ 31) (hb : b < 2 ^ 31) : (nI a = nI b) = (a = b) := propext (nI_eq ha hb)
theorem n_lef {a b : Nat} (h : b < a) : (a ≤ b) = False := eq_false (Nat.not_le.mpr h)
theorem n_let {a b : Nat} (h : a ≤ b) : (a ≤ b) = True := eq_true h
theorem n_ltf {a b : Nat} (h : b ≤ a) : (a < b) = False := eq_false (Nat.not_lt.mpr h)
theorem n_ltt {a b : Nat} (h : a < b) : (a < b) = True := eq_true h
theorem n_sub {a b : Nat} (h : b ≤ a) : nI a - nI b = nI (a - b) := pk_sub h
theorem n_i0 : (0 : Int32) = nI 0 := nI_0.symm
theorem n_i1 : (1 : Int32) = nI 1 := by decide +kernel
theorem r_ite {c : Prop} [Decidable c] {a b : Int32} {S : am_S} : (if c then (some (some (Value.int a), S) : am_R) else some (some (.int b), S)) = some (some (.int (if c then a else b)), S) := by split <;> rfl
theorem rj_ite {c : Prop} [Decidable c] {a b : Int64} {S : am_S} : (if c then (some (some (Value.long a), S) : am_R) else some (some (.long b), S)) = some (some (.long (if c then a else b)), S) := by split <;> rfl
theorem ite_one {c : Prop} [Decidable c] : ((if c then nI 1 else nI 0) = 0) = ¬ c := by
  split
  · rename_i h; exact propext ⟨fun e => absurd e (by decide), fun e => absurd h e⟩
  · rename_i h; exact propext ⟨fun _ => h, fun _ => nI_0⟩
theorem ite_b01 {c : Prop} [Decidable c] : ((if c then nI 1 else nI 0) = 0 ∨ (if c then nI 1 else nI 0) = 1) = True := by
  split
  · exact eq_true (Or.inr n_i1.symm)
  · exact eq_true (Or.inl nI_0)
theorem l_lt (a b : Int64) : (lg_cmp a b < 0) = (a < b) := propext (lg_cmp_lt a b)
theorem l_gt (a b : Int64) : (0 < lg_cmp a b) = (b < a) := propext (lg_cmp_gt a b)
theorem l_le (a b : Int64) : (lg_cmp a b ≤ 0) = (a ≤ b) := propext (lg_cmp_le a b)
theorem l_ge (a b : Int64) : (0 ≤ lg_cmp a b) = (b ≤ a) := propext (lg_cmp_ge a b)
theorem l_eq (a b : Int64) : (lg_cmp a b = 0) = (a = b) := propext (lg_cmp_eq a b)
theorem w_lt (a b : Int32) : (a.toInt64 < b.toInt64) = (a < b) := by
  rw [Int64.lt_iff_toInt_lt, Int32.toInt_toInt64, Int32.toInt_toInt64, ← Int32.lt_iff_toInt_lt]
theorem lN_w {n : Nat} (h : n < 2 ^ 31) : lN n = (nI n).toInt64 := (nI_l h).symm
theorem w_ltn {a : Int32} {n : Nat} (h : n < 2 ^ 31) : (a.toInt64 < lN n) = (a < nI n) := by rw [lN_w h, w_lt]
theorem w_nlt {a : Int32} {n : Nat} (h : n < 2 ^ 31) : (lN n < a.toInt64) = (nI n < a) := by rw [lN_w h, w_lt]
theorem in_r2 {k n : Nat} {X : am_R} (h : k < n) (hn : n < 2 ^ 31) : (if nI k < 0 ∨ n ≤ k then none else X) = X := if_neg fun hh => by
  rcases hh with hh | hh
  · exact nI_pos (Nat.lt_trans h hn) hh
  · omega
theorem nz_0 : (nI 0 < 0) = False := eq_false (by decide +kernel)
theorem nc_0 : (nI 0).toNatClampNeg = 0 := by decide +kernel
theorem nz_1 : (nI 1 < 0) = False := eq_false (by decide +kernel)
theorem nc_1 : (nI 1).toNatClampNeg = 1 := by decide +kernel
theorem nz_2 : (nI 2 < 0) = False := eq_false (by decide +kernel)
theorem nc_2 : (nI 2).toNatClampNeg = 2 := by decide +kernel
theorem nz_3 : (nI 3 < 0) = False := eq_false (by decide +kernel)
theorem nc_3 : (nI 3).toNatClampNeg = 3 := by decide +kernel
theorem nz_4 : (nI 4 < 0) = False := eq_false (by decide +kernel)
theorem nc_4 : (nI 4).toNatClampNeg = 4 := by decide +kernel
theorem nz_5 : (nI 5 < 0) = False := eq_false (by decide +kernel)
theorem nc_5 : (nI 5).toNatClampNeg = 5 := by decide +kernel
theorem nz_6 : (nI 6 < 0) = False := eq_false (by decide +kernel)
theorem nc_6 : (nI 6).toNatClampNeg = 6 := by decide +kernel
theorem nz_7 : (nI 7 < 0) = False := eq_false (by decide +kernel)
theorem nc_7 : (nI 7).toNatClampNeg = 7 := by decide +kernel
theorem nz_8 : (nI 8 < 0) = False := eq_false (by decide +kernel)
theorem nc_8 : (nI 8).toNatClampNeg = 8 := by decide +kernel
theorem nz_9 : (nI 9 < 0) = False := eq_false (by decide +kernel)
theorem nc_9 : (nI 9).toNatClampNeg = 9 := by decide +kernel
theorem nz_10 : (nI 10 < 0) = False := eq_false (by decide +kernel)
theorem nc_10 : (nI 10).toNatClampNeg = 10 := by decide +kernel
theorem nz_11 : (nI 11 < 0) = False := eq_false (by decide +kernel)
theorem nc_11 : (nI 11).toNatClampNeg = 11 := by decide +kernel
theorem nz_12 : (nI 12 < 0) = False := eq_false (by decide +kernel)
theorem nc_12 : (nI 12).toNatClampNeg = 12 := by decide +kernel
theorem n_101 : (103 ≤ 110 ∧ 110 < 200) = True := eq_true (by decide)
theorem n_107 : (103 ≤ 105 ∧ 105 < 200) = True := eq_true (by decide)
theorem n_11 : (103 ≤ 104 ∧ 104 < 200) = True := eq_true (by decide)
theorem n_60 : (6 ≤ 0) = False := eq_false (by decide)
theorem n_61 : (6 ≤ 1) = False := eq_false (by decide)
theorem n_62 : (6 ≤ 2) = False := eq_false (by decide)
theorem n_63 : (6 ≤ 3) = False := eq_false (by decide)
theorem n_64 : (6 ≤ 4) = False := eq_false (by decide)
theorem n_65 : (6 ≤ 5) = False := eq_false (by decide)
theorem nn_0_1 : (nI 0 = nI 1) = False := eq_false (by decide)
theorem nn_0_2 : (nI 0 = nI 2) = False := eq_false (by decide)
theorem nn_0_3 : (nI 0 = nI 3) = False := eq_false (by decide)
theorem nn_0_4 : (nI 0 = nI 4) = False := eq_false (by decide)
theorem nn_0_5 : (nI 0 = nI 5) = False := eq_false (by decide)
theorem nn_0_6 : (nI 0 = nI 6) = False := eq_false (by decide)
theorem nn_0_7 : (nI 0 = nI 7) = False := eq_false (by decide)
theorem nn_0_8 : (nI 0 = nI 8) = False := eq_false (by decide)
theorem nq_0 : (nI 0 = 0) = True := eq_true nI_0
theorem nn_1_0 : (nI 1 = nI 0) = False := eq_false (by decide)
theorem nn_1_2 : (nI 1 = nI 2) = False := eq_false (by decide)
theorem nn_1_3 : (nI 1 = nI 3) = False := eq_false (by decide)
theorem nn_1_4 : (nI 1 = nI 4) = False := eq_false (by decide)
theorem nn_1_5 : (nI 1 = nI 5) = False := eq_false (by decide)
theorem nn_1_6 : (nI 1 = nI 6) = False := eq_false (by decide)
theorem nn_1_7 : (nI 1 = nI 7) = False := eq_false (by decide)
theorem nn_1_8 : (nI 1 = nI 8) = False := eq_false (by decide)
theorem nq_1 : (nI 1 = 0) = False := eq_false (by decide)
theorem nn_2_0 : (nI 2 = nI 0) = False := eq_false (by decide)
theorem nn_2_1 : (nI 2 = nI 1) = False := eq_false (by decide)
theorem nn_2_3 : (nI 2 = nI 3) = False := eq_false (by decide)
theorem nn_2_4 : (nI 2 = nI 4) = False := eq_false (by decide)
theorem nn_2_5 : (nI 2 = nI 5) = False := eq_false (by decide)
theorem nn_2_6 : (nI 2 = nI 6) = False := eq_false (by decide)
theorem nn_2_7 : (nI 2 = nI 7) = False := eq_false (by decide)
theorem nn_2_8 : (nI 2 = nI 8) = False := eq_false (by decide)
theorem nq_2 : (nI 2 = 0) = False := eq_false (by decide)
theorem nn_3_0 : (nI 3 = nI 0) = False := eq_false (by decide)
theorem nn_3_1 : (nI 3 = nI 1) = False := eq_false (by decide)
theorem nn_3_2 : (nI 3 = nI 2) = False := eq_false (by decide)
theorem nn_3_4 : (nI 3 = nI 4) = False := eq_false (by decide)
theorem nn_3_5 : (nI 3 = nI 5) = False := eq_false (by decide)
theorem nn_3_6 : (nI 3 = nI 6) = False := eq_false (by decide)
theorem nn_3_7 : (nI 3 = nI 7) = False := eq_false (by decide)
theorem nn_3_8 : (nI 3 = nI 8) = False := eq_false (by decide)
theorem nq_3 : (nI 3 = 0) = False := eq_false (by decide)
theorem nn_4_0 : (nI 4 = nI 0) = False := eq_false (by decide)
theorem nn_4_1 : (nI 4 = nI 1) = False := eq_false (by decide)
theorem nn_4_2 : (nI 4 = nI 2) = False := eq_false (by decide)
theorem nn_4_3 : (nI 4 = nI 3) = False := eq_false (by decide)
theorem nn_4_5 : (nI 4 = nI 5) = False := eq_false (by decide)
theorem nn_4_6 : (nI 4 = nI 6) = False := eq_false (by decide)
theorem nn_4_7 : (nI 4 = nI 7) = False := eq_false (by decide)
theorem nn_4_8 : (nI 4 = nI 8) = False := eq_false (by decide)
theorem nq_4 : (nI 4 = 0) = False := eq_false (by decide)
theorem nn_5_0 : (nI 5 = nI 0) = False := eq_false (by decide)
theorem nn_5_1 : (nI 5 = nI 1) = False := eq_false (by decide)
theorem nn_5_2 : (nI 5 = nI 2) = False := eq_false (by decide)
theorem nn_5_3 : (nI 5 = nI 3) = False := eq_false (by decide)
theorem nn_5_4 : (nI 5 = nI 4) = False := eq_false (by decide)
theorem nn_5_6 : (nI 5 = nI 6) = False := eq_false (by decide)
theorem nn_5_7 : (nI 5 = nI 7) = False := eq_false (by decide)
theorem nn_5_8 : (nI 5 = nI 8) = False := eq_false (by decide)
theorem nq_5 : (nI 5 = 0) = False := eq_false (by decide)
theorem nn_6_0 : (nI 6 = nI 0) = False := eq_false (by decide)
theorem nn_6_1 : (nI 6 = nI 1) = False := eq_false (by decide)
theorem nn_6_2 : (nI 6 = nI 2) = False := eq_false (by decide)
theorem nn_6_3 : (nI 6 = nI 3) = False := eq_false (by decide)
theorem nn_6_4 : (nI 6 = nI 4) = False := eq_false (by decide)
theorem nn_6_5 : (nI 6 = nI 5) = False := eq_false (by decide)
theorem nn_6_7 : (nI 6 = nI 7) = False := eq_false (by decide)
theorem nn_6_8 : (nI 6 = nI 8) = False := eq_false (by decide)
theorem nq_6 : (nI 6 = 0) = False := eq_false (by decide)
theorem nn_7_0 : (nI 7 = nI 0) = False := eq_false (by decide)
theorem nn_7_1 : (nI 7 = nI 1) = False := eq_false (by decide)
theorem nn_7_2 : (nI 7 = nI 2) = False := eq_false (by decide)
theorem nn_7_3 : (nI 7 = nI 3) = False := eq_false (by decide)
theorem nn_7_4 : (nI 7 = nI 4) = False := eq_false (by decide)
theorem nn_7_5 : (nI 7 = nI 5) = False := eq_false (by decide)
theorem nn_7_6 : (nI 7 = nI 6) = False := eq_false (by decide)
theorem nn_7_8 : (nI 7 = nI 8) = False := eq_false (by decide)
theorem nq_7 : (nI 7 = 0) = False := eq_false (by decide)
theorem nn_8_0 : (nI 8 = nI 0) = False := eq_false (by decide)
theorem nn_8_1 : (nI 8 = nI 1) = False := eq_false (by decide)
theorem nn_8_2 : (nI 8 = nI 2) = False := eq_false (by decide)
theorem nn_8_3 : (nI 8 = nI 3) = False := eq_false (by decide)
theorem nn_8_4 : (nI 8 = nI 4) = False := eq_false (by decide)
theorem nn_8_5 : (nI 8 = nI 5) = False := eq_false (by decide)
theorem nn_8_6 : (nI 8 = nI 6) = False := eq_false (by decide)
theorem nn_8_7 : (nI 8 = nI 7) = False := eq_false (by decide)
theorem nq_8 : (nI 8 = 0) = False := eq_false (by decide)
