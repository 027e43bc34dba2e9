/-! ===== the law's own method is what stands in its bytes (in pieces: the whole at once is too much for the kernel) ===== -/
set_option maxRecDepth 100000 in
theorem pg_okl_0 : (List.range 100).all (fun i => am_ck1 274 (0 + i)) = true := by decide +kernel
set_option maxRecDepth 100000 in
theorem pg_okl_100 : (List.range 100).all (fun i => am_ck1 274 (100 + i)) = true := by decide +kernel
set_option maxRecDepth 100000 in
theorem pg_okl_200 : (List.range 100).all (fun i => am_ck1 274 (200 + i)) = true := by decide +kernel
set_option maxRecDepth 100000 in
theorem pg_okl_300 : (List.range 100).all (fun i => am_ck1 274 (300 + i)) = true := by decide +kernel
set_option maxRecDepth 100000 in
theorem pg_okl_400 : (List.range 100).all (fun i => am_ck1 274 (400 + i)) = true := by decide +kernel
set_option maxRecDepth 100000 in
theorem pg_okl_500 : (List.range 100).all (fun i => am_ck1 274 (500 + i)) = true := by decide +kernel
set_option maxRecDepth 100000 in
theorem pg_okl_600 : (List.range 100).all (fun i => am_ck1 274 (600 + i)) = true := by decide +kernel
set_option maxRecDepth 100000 in
theorem pg_okl_700 : (List.range 100).all (fun i => am_ck1 274 (700 + i)) = true := by decide +kernel
set_option maxRecDepth 100000 in
theorem pg_okl_800 : (List.range 100).all (fun i => am_ck1 274 (800 + i)) = true := by decide +kernel
set_option maxRecDepth 100000 in
theorem pg_okl_900 : (List.range 100).all (fun i => am_ck1 274 (900 + i)) = true := by decide +kernel
set_option maxRecDepth 100000 in
theorem pg_okl_1000 : (List.range 100).all (fun i => am_ck1 274 (1000 + i)) = true := by decide +kernel
set_option maxRecDepth 100000 in
theorem pg_okl_1100 : (List.range 100).all (fun i => am_ck1 274 (1100 + i)) = true := by decide +kernel
theorem pg_okl_n : 16 * (pg_m 274).length = 1200 := by decide +kernel
theorem pg_ok_274 : am_chk 274 = true := by
  unfold am_chk
  rw [pg_okl_n, List.all_eq_true]
  intro i hi
  have hi := List.mem_range.mp hi
  by_cases h100 : i < 100
  · have h := List.all_eq_true.mp pg_okl_0 (i - 0) (List.mem_range.mpr (by omega))
    rw [show 0 + (i - 0) = i by omega] at h
    exact h
  by_cases h200 : i < 200
  · have h := List.all_eq_true.mp pg_okl_100 (i - 100) (List.mem_range.mpr (by omega))
    rw [show 100 + (i - 100) = i by omega] at h
    exact h
  by_cases h300 : i < 300
  · have h := List.all_eq_true.mp pg_okl_200 (i - 200) (List.mem_range.mpr (by omega))
    rw [show 200 + (i - 200) = i by omega] at h
    exact h
  by_cases h400 : i < 400
  · have h := List.all_eq_true.mp pg_okl_300 (i - 300) (List.mem_range.mpr (by omega))
    rw [show 300 + (i - 300) = i by omega] at h
    exact h
  by_cases h500 : i < 500
  · have h := List.all_eq_true.mp pg_okl_400 (i - 400) (List.mem_range.mpr (by omega))
    rw [show 400 + (i - 400) = i by omega] at h
    exact h
  by_cases h600 : i < 600
  · have h := List.all_eq_true.mp pg_okl_500 (i - 500) (List.mem_range.mpr (by omega))
    rw [show 500 + (i - 500) = i by omega] at h
    exact h
  by_cases h700 : i < 700
  · have h := List.all_eq_true.mp pg_okl_600 (i - 600) (List.mem_range.mpr (by omega))
    rw [show 600 + (i - 600) = i by omega] at h
    exact h
  by_cases h800 : i < 800
  · have h := List.all_eq_true.mp pg_okl_700 (i - 700) (List.mem_range.mpr (by omega))
    rw [show 700 + (i - 700) = i by omega] at h
    exact h
  by_cases h900 : i < 900
  · have h := List.all_eq_true.mp pg_okl_800 (i - 800) (List.mem_range.mpr (by omega))
    rw [show 800 + (i - 800) = i by omega] at h
    exact h
  by_cases h1000 : i < 1000
  · have h := List.all_eq_true.mp pg_okl_900 (i - 900) (List.mem_range.mpr (by omega))
    rw [show 900 + (i - 900) = i by omega] at h
    exact h
  by_cases h1100 : i < 1100
  · have h := List.all_eq_true.mp pg_okl_1000 (i - 1000) (List.mem_range.mpr (by omega))
    rw [show 1000 + (i - 1000) = i by omega] at h
    exact h
  have h := List.all_eq_true.mp pg_okl_1100 (i - 1100) (List.mem_range.mpr (by omega))
  rw [show 1100 + (i - 1100) = i by omega] at h
  exact h
