/-! ===== sheets: small questions ===== -/
def v_nar (x y : Int32) : Int32 := if x = nI 0 then Int8.toInt32 (Int32.toInt8 y) else if x = nI 1 then Int16.toInt32 (Int32.toInt16 y) else if x = nI 4 then (if y = 0 then nI 0 else nI 1) else y
section H10s
variable {I : mI} {J : mJ} {d : Nat} {x y : Int32}
theorem k144 : am_cal (d + 1) 144 [.int x, .int y] (mS I J) = some (some (.int (v_nar x y)), mS I J) := by
  rw [c_144]
  unfold v_nar
  by_cases h0 : x = nI 0
  · rw [if_pos h0, if_pos h0]
  · rw [if_neg h0, if_neg h0]
    by_cases h1 : x = nI 1
    · rw [if_pos h1, if_pos h1]
    · rw [if_neg h1, if_neg h1]
      by_cases h2 : x = nI 2
      · rw [if_pos h2, if_neg (by rw [h2]; decide)]
      · rw [if_neg h2]
        by_cases h3 : x = nI 3
        · rw [if_pos h3, if_neg (by rw [h3]; decide)]
        · rw [if_neg h3]
          by_cases h4 : x = nI 4
          · rw [if_pos h4, if_pos h4]
            by_cases hy : y = 0
            · rw [if_pos hy, if_pos hy]
            · rw [if_neg hy, if_neg hy]
          · rw [if_neg h4, if_neg h4]
theorem m247 : am_cal (d + 1) 247 [.int x, .int y] (mS I J) = some (some (.int (v_nar x y)), mS I J) := by
  rw [c_247]
  unfold v_nar
  by_cases h0 : x = nI 0
  · rw [if_pos (by rw [n_i0]; exact h0), if_pos h0]
  · rw [if_neg (by rw [n_i0]; exact h0), if_neg h0]
    by_cases h1 : x = nI 1
    · rw [if_pos h1, if_pos h1]
    · rw [if_neg h1, if_neg h1]
      by_cases h4 : x = nI 4
      · rw [if_pos h4, if_pos h4]
        by_cases hy : y = 0
        · rw [if_pos hy, if_pos hy]
        · rw [if_neg hy, if_neg hy]
      · rw [if_neg h4, if_neg h4]
abbrev isSh (x : Int32) : Prop := ¬ x < 0 ∧ x < nI 4
theorem k145 : am_cal (d + 1) 145 [.int x] (mS I J) = some (some (.int (if isSh x then nI 1 else nI 0)), mS I J) := by
  rw [c_145]
  by_cases h0 : x < 0
  · rw [if_pos h0, if_neg (fun h => h.1 h0)]
  · rw [if_neg h0]
    by_cases h1 : x < nI 4
    · rw [if_pos h1, if_pos (show isSh x from ⟨h0, h1⟩)]
    · rw [if_neg h1, if_neg (fun h => h1 h.2)]
theorem k146 : am_cal (d + 1) 146 [.int x] (mS I J) = some (some (.int (if isSh x then nI 1 else nI 0)), mS I J) := by
  rw [c_146]
  by_cases h0 : x < 0
  · rw [if_pos h0, if_neg (fun h => h.1 h0)]
  · rw [if_neg h0]
    by_cases h1 : x < nI 4
    · rw [if_pos h1, if_pos (show isSh x from ⟨h0, h1⟩)]
    · rw [if_neg h1, if_neg (fun h => h1 h.2)]
theorem m245 : am_cal (d + 2) 245 [.int x] (mS I J) = some (some (.int (if isSh x then nI 1 else nI 0)), mS I J) := by
  have z1 : (nI 1 = (1 : Int32)) = True := eq_true rfl
  rw [c_245, m151 (by decide) (by decide), bI_s]
  by_cases h : isSh x
  · have h' : ¬ x < nI 0 ∧ ¬ nI 3 < x := by
      obtain ⟨j, hj, rfl⟩ := nI_of h.1
      have := h.2
      rw [n_lt hj (by decide)] at this
      rw [n_lt hj (by decide), n_lt (by decide) hj]
      omega
    rw [if_pos h', if_pos h, if_pos (show nI 1 = 0 ∨ nI 1 = (1 : Int32) from Or.inr (by decide))]
  · have h' : ¬ (¬ x < nI 0 ∧ ¬ nI 3 < x) := fun hh => by
      have h0 : ¬ x < 0 := by rw [n_i0]; exact hh.1
      obtain ⟨j, hj, rfl⟩ := nI_of h0
      have h3 := hh.2
      rw [n_lt (by decide) hj] at h3
      exact h ⟨h0, by rw [n_lt hj (by decide)]; omega⟩
    rw [if_neg h', if_neg h, if_pos (Or.inl nI_0)]
end H10s
