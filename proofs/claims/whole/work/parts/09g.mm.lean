/-! ===== Math.max and Math.min of longs: the words of their calls ===== -/
theorem am_mx_nm : pg_nm 272 = Lib.MathLoose.max_long.x := by first | rfl | decide +kernel
theorem am_mn_nm : pg_nm 273 = Lib.MathLoose.min_long.x := by first | rfl | decide +kernel
theorem am_mx_by : pg_by 272 = Lib.MathLoose.max_long.code := by first | rfl | decide +kernel
theorem am_mn_by : pg_by 273 = Lib.MathLoose.min_long.code := by first | rfl | decide +kernel
theorem am_mx_w {s : State} {args : Array Value} (hin : ∀ {w : Cond}, w ∈ lw_tbl → goodWord w = true → w.before args s = true) (hz : 272 ∈ pg_ys.flatten) {o q2 : Nat} (hm : (o, q2, 272) ∈ lk_m) : (Cond.methodLink (am_on o) q2 Lib.MathLoose.max_long.x).before args s = true ∧ (Cond.static Lib.MathLoose.max_long.x).before args s = true ∧ (Cond.initialized "java/lang/Math").before args s = true ∧ (Cond.code Lib.MathLoose.max_long.x Lib.MathLoose.max_long.code 4 (some .long)).before args s = true := by
  rw [← am_mx_nm, ← am_mx_by]
  exact ⟨hin (lk_m_ok _ hm) rfl, hin (pg_w_ok 272 hz _ (List.mem_cons_of_mem _ (List.mem_cons_of_mem _ List.mem_cons_self))) rfl, hin (pg_w_ok 272 hz _ (List.mem_cons_of_mem _ List.mem_cons_self)) rfl, hin (pg_w_ok 272 hz _ List.mem_cons_self) rfl⟩
theorem am_mn_w {s : State} {args : Array Value} (hin : ∀ {w : Cond}, w ∈ lw_tbl → goodWord w = true → w.before args s = true) (hz : 273 ∈ pg_ys.flatten) {o q2 : Nat} (hm : (o, q2, 273) ∈ lk_m) : (Cond.methodLink (am_on o) q2 Lib.MathLoose.min_long.x).before args s = true ∧ (Cond.static Lib.MathLoose.min_long.x).before args s = true ∧ (Cond.initialized "java/lang/Math").before args s = true ∧ (Cond.code Lib.MathLoose.min_long.x Lib.MathLoose.min_long.code 4 (some .long)).before args s = true := by
  rw [← am_mn_nm, ← am_mn_by]
  exact ⟨hin (lk_m_ok _ hm) rfl, hin (pg_w_ok 273 hz _ (List.mem_cons_of_mem _ (List.mem_cons_of_mem _ List.mem_cons_self))) rfl, hin (pg_w_ok 273 hz _ (List.mem_cons_of_mem _ List.mem_cons_self)) rfl, hin (pg_w_ok 273 hz _ List.mem_cons_self) rfl⟩
