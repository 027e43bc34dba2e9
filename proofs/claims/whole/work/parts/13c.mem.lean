/-! ===== a call, opened; reading and writing over what lies where ===== -/
theorem cl_i {d y b : Nat} {As : List Value} {S : am_S} (h1 : (Nat.blt y 272 && (am_nod (.ref b :: As) && Nat.ble (am_spr (.ref b :: As)).length (pg_mx y))) = true) (h : am_c S b = pg_ow y) : am_cal (d + 1) y (.ref b :: As) S = am_X (am_cal d) y 0 (am_ent y (.ref b :: As)) [] S := by
  have hg : am_gr y (.ref b :: As) S = true := by
    simp only [Bool.and_eq_true] at h1
    have h2 : Nat.beq (am_c S b) (pg_ow y) = true := by rw [h]; exact Nat.beq_refl _
    unfold am_gr
    rw [h1.1, h1.2.1, h1.2.2]
    show (pg_is y || Nat.beq (am_c S b) (pg_ow y)) = true
    rw [h2, Bool.or_true]
  show (if am_gr y (.ref b :: As) S = true then am_X (am_cal d) y 0 (am_ent y (.ref b :: As)) [] S else none) = _
  rw [if_pos hg]
theorem cl_s {d y : Nat} {As : List Value} {S : am_S} (h1 : (Nat.blt y 272 && (am_nod As && (Nat.ble (am_spr As).length (pg_mx y) && pg_is y))) = true) : am_cal (d + 1) y As S = am_X (am_cal d) y 0 (am_ent y As) [] S := by
  have hg : am_gr y As S = true := by
    simp only [Bool.and_eq_true] at h1
    unfold am_gr
    rw [h1.1, h1.2.1, h1.2.2.1, h1.2.2.2]
    rfl
  show (if am_gr y As S = true then am_X (am_cal d) y 0 (am_ent y As) [] S else none) = _
  rw [if_pos hg]
abbrev mI : Type := Nat → Nat → Int32
abbrev mJ : Type := Nat → Nat → Int64
/-- one int, one long written -/
def wI (I : mI) (a k : Nat) (v : Int32) : mI := fun b j => if b = a ∧ j = k then v else I b j
def wJ (J : mJ) (a k : Nat) (v : Int64) : mJ := fun b j => if b = a ∧ j = k then v else J b j
theorem wI_up (I : mI) (a k : Nat) (v : Int32) : am_up I a (am_up (I a) k v) = wI I a k v := by
  funext b j
  unfold am_up wI
  by_cases hb : b = a
  · subst hb
    by_cases hj : j = k
    · simp only [hj, if_true, and_self]
    · simp only [hj, if_true, if_false, and_false]
  · simp only [hb, if_false, false_and]
theorem wJ_up (J : mJ) (a k : Nat) (v : Int64) : am_up J a (am_up (J a) k v) = wJ J a k v := by
  funext b j
  unfold am_up wJ
  by_cases hb : b = a
  · subst hb
    by_cases hj : j = k
    · simp only [hj, if_true, and_self]
    · simp only [hj, if_true, if_false, and_false]
  · simp only [hb, if_false, false_and]
theorem wI_eq {I : mI} {a k : Nat} {v : Int32} : wI I a k v a k = v := if_pos ⟨rfl, rfl⟩
theorem wI_ne {I : mI} {a k b j : Nat} {v : Int32} (h : b ≠ a) : wI I a k v b j = I b j := if_neg fun hh => h hh.1
theorem wI_nk {I : mI} {a k b j : Nat} {v : Int32} (h : j ≠ k) : wI I a k v b j = I b j := if_neg fun hh => h hh.2
theorem wJ_eq {J : mJ} {a k : Nat} {v : Int64} : wJ J a k v a k = v := if_pos ⟨rfl, rfl⟩
theorem wJ_ne {J : mJ} {a k b j : Nat} {v : Int64} (h : b ≠ a) : wJ J a k v b j = J b j := if_neg fun hh => h hh.1
theorem wJ_nk {J : mJ} {a k b j : Nat} {v : Int64} (h : j ≠ k) : wJ J a k v b j = J b j := if_neg fun hh => h hh.2
theorem mS_c {I : mI} {J : mJ} {a : Nat} : am_c (mS I J) a = lyC a := rfl
theorem mS_l {I : mI} {J : mJ} {a : Nat} : am_l (mS I J) a = lyL a := rfl
theorem mS_r {I : mI} {J : mJ} {a k : Nat} : am_r (mS I J) a k = lyR a k := rfl
theorem mS_i {I : mI} {J : mJ} {a k : Nat} : am_i (mS I J) a k = I a k := rfl
theorem mS_j {I : mI} {J : mJ} {a k : Nat} : am_j (mS I J) a k = J a k := rfl
theorem mS_pi {I : mI} {J : mJ} {a k : Nat} {v : Int32} : am_pi (mS I J) a k v = mS (wI I a k v) J := by
  show (249, 5300, lyC, lyL, lyR, am_up I a (am_up (I a) k v), J) = _
  rw [wI_up]
  rfl
theorem mS_pj {I : mI} {J : mJ} {a k : Nat} {v : Int64} : am_pj (mS I J) a k v = mS I (wJ J a k v) := by
  show (249, 5300, lyC, lyL, lyR, I, am_up J a (am_up (J a) k v)) = _
  rw [wJ_up]
  rfl
theorem mS_cp {I : mI} {J : mJ} {a b sp dp n : Nat} : am_cp (mS I J) a b sp dp n = mS (am_up I b (va_cpy (I a) (I b) sp dp n)) J := rfl
theorem lt_st {v : am_S} {k : am_S → am_R} : am_lt v k = k v := rfl
theorem bq_s {x : Nat} {k : Nat → am_R} : am_bq (some x) k = k x := rfl
theorem bV_s {S : am_S} {k : am_S → am_R} : am_bV (some (none, S)) k = k S := rfl
theorem bI_s {x : Int32} {S : am_S} {k : Int32 → am_S → am_R} : am_bI (some (some (.int x), S)) k = k x S := rfl
theorem bJ_s {x : Int64} {S : am_S} {k : Int64 → am_S → am_R} : am_bJ (some (some (.long x), S)) k = k x S := rfl
theorem bA_s {x : Nat} {S : am_S} {k : Nat → am_S → am_R} : am_bA (some (some (.ref x), S)) k = k x S := rfl
/-- within a row -/
theorem in_r {k n : Nat} {X : am_R} (h : k < n) (hn : n < 2 ^ 31) : (if nI k < 0 ∨ n ≤ (nI k).toNatClampNeg then none else X) = X := if_neg (nI_in h hn)
theorem nbq {r : Nat} (h : 0 < r) : Nat.beq r 0 = false := by
  cases r with
  | zero => omega
  | succ r => rfl
/-! ===== the three worlds, the four laws, the two ledgers ===== -/
def isW (w : Nat) : Prop := w = 1 ∨ w = 64 ∨ w = 127
def isL (l : Nat) : Prop := l = 8 ∨ l = 71 ∨ l = 134 ∨ l = 200
def isG (g w : Nat) : Prop := (g = 190 ∧ w = 1) ∨ (g = 192 ∧ w = 127)
theorem isG.w {g w : Nat} (h : isG g w) : isW w := by rcases h with ⟨_, rfl⟩ | ⟨_, rfl⟩; exact Or.inl rfl; exact Or.inr (Or.inr rfl)
theorem isW.l {w : Nat} (h : isW w) : isL (w + 7) := by rcases h with rfl | rfl | rfl; exact Or.inl rfl; exact Or.inr (Or.inl rfl); exact Or.inr (Or.inr (Or.inl rfl))
theorem isW.b {w : Nat} (h : isW w) : w < 128 := by rcases h with rfl | rfl | rfl <;> decide
theorem isL.b {l : Nat} (h : isL l) : l < 201 := by rcases h with rfl | rfl | rfl | rfl <;> decide
theorem ly_w {w : Nat} (h : isW w) : lyC w = 10 ∧ lyR w 0 = some (w + 1) ∧ lyR w 1 = some (w + 2) ∧ lyR w 2 = some (w + 3) ∧ lyR w 3 = some (w + 4) ∧ lyR w 4 = some (w + 5) ∧ lyR w 5 = some (w + 6) ∧ lyR w 6 = some (w + 7) ∧ lyR w 7 = some (w + 12) := by
  rcases h with rfl | rfl | rfl <;> exact ⟨ly_c rfl rfl, ly_r rfl rfl rfl rfl, ly_r rfl rfl rfl rfl, ly_r rfl rfl rfl rfl, ly_r rfl rfl rfl rfl, ly_r rfl rfl rfl rfl, ly_r rfl rfl rfl rfl, ly_r rfl rfl rfl rfl, ly_r rfl rfl rfl rfl⟩
theorem w_C {w : Nat} (h : isW w) : lyC w = 10 := (ly_w h).1
theorem w_R0 {w : Nat} (h : isW w) : lyR w 0 = some (w + 1) := (ly_w h).2.1
theorem w_R1 {w : Nat} (h : isW w) : lyR w 1 = some (w + 2) := (ly_w h).2.2.1
theorem w_R2 {w : Nat} (h : isW w) : lyR w 2 = some (w + 3) := (ly_w h).2.2.2.1
theorem w_R3 {w : Nat} (h : isW w) : lyR w 3 = some (w + 4) := (ly_w h).2.2.2.2.1
theorem w_R4 {w : Nat} (h : isW w) : lyR w 4 = some (w + 5) := (ly_w h).2.2.2.2.2.1
theorem w_R5 {w : Nat} (h : isW w) : lyR w 5 = some (w + 6) := (ly_w h).2.2.2.2.2.2.1
theorem w_R6 {w : Nat} (h : isW w) : lyR w 6 = some (w + 7) := (ly_w h).2.2.2.2.2.2.2.1
theorem w_R7 {w : Nat} (h : isW w) : lyR w 7 = some (w + 12) := (ly_w h).2.2.2.2.2.2.2.2
theorem w_C1 {w : Nat} (h : isW w) : lyC (w + 1) = 110 := by rcases h with rfl | rfl | rfl <;> exact ly_c rfl rfl
theorem w_L1 {w : Nat} (h : isW w) : lyL (w + 1) = 12 := by rcases h with rfl | rfl | rfl <;> exact ly_l rfl rfl
theorem w_C2 {w : Nat} (h : isW w) : lyC (w + 2) = 105 := by rcases h with rfl | rfl | rfl <;> exact ly_c rfl rfl
theorem w_L2 {w : Nat} (h : isW w) : lyL (w + 2) = 18 := by rcases h with rfl | rfl | rfl <;> exact ly_l rfl rfl
theorem w_C3 {w : Nat} (h : isW w) : lyC (w + 3) = 104 := by rcases h with rfl | rfl | rfl <;> exact ly_c rfl rfl
theorem w_L3 {w : Nat} (h : isW w) : lyL (w + 3) = 12 := by rcases h with rfl | rfl | rfl <;> exact ly_l rfl rfl
theorem w_C4 {w : Nat} (h : isW w) : lyC (w + 4) = 112 := by rcases h with rfl | rfl | rfl <;> exact ly_c rfl rfl
theorem w_L4 {w : Nat} (h : isW w) : lyL (w + 4) = 8 := by rcases h with rfl | rfl | rfl <;> exact ly_l rfl rfl
theorem w_C5 {w : Nat} (h : isW w) : lyC (w + 5) = 100 := by rcases h with rfl | rfl | rfl <;> exact ly_c rfl rfl
theorem w_L5 {w : Nat} (h : isW w) : lyL (w + 5) = 10 := by rcases h with rfl | rfl | rfl <;> exact ly_l rfl rfl
theorem w_C6 {w : Nat} (h : isW w) : lyC (w + 6) = 100 := by rcases h with rfl | rfl | rfl <;> exact ly_c rfl rfl
theorem w_L6 {w : Nat} (h : isW w) : lyL (w + 6) = 10 := by rcases h with rfl | rfl | rfl <;> exact ly_l rfl rfl
theorem w_C12 {w : Nat} (h : isW w) : lyC (w + 12) = 100 := by rcases h with rfl | rfl | rfl <;> exact ly_c rfl rfl
theorem w_L12 {w : Nat} (h : isW w) : lyL (w + 12) = 6 := by rcases h with rfl | rfl | rfl <;> exact ly_l rfl rfl
theorem w_tp : ∀ p, p < 12 → (tb_c (1 + 13 + p) = 7 ∧ pg_at 0 (tb_r (1 + 1)) p = 1 + 13 + p) ∧ (tb_c (64 + 13 + p) = 7 ∧ pg_at 0 (tb_r (64 + 1)) p = 64 + 13 + p) ∧ (tb_c (127 + 13 + p) = 7 ∧ pg_at 0 (tb_r (127 + 1)) p = 127 + 13 + p) := by decide +kernel
theorem w_cp {w p : Nat} (h : isW w) (hp : p < 12) : lyC (w + 13 + p) = 7 := by
  have ht := w_tp p hp
  rcases h with rfl | rfl | rfl
  · exact ly_c (by rw [Nat.blt_eq]; omega) ht.1.1
  · exact ly_c (by rw [Nat.blt_eq]; omega) ht.2.1.1
  · exact ly_c (by rw [Nat.blt_eq]; omega) ht.2.2.1
theorem w_rp {w p : Nat} (h : isW w) (hp : p < 12) : lyR (w + 1) p = some (w + 13 + p) := by
  have ht := w_tp p hp
  rcases h with rfl | rfl | rfl
  · exact ly_r rfl (by rw [show (tb_r (1 + 1)).length = 12 from rfl, Nat.blt_eq]; exact hp) ht.1.2 (nbq (by omega))
  · exact ly_r rfl (by rw [show (tb_r (64 + 1)).length = 12 from rfl, Nat.blt_eq]; exact hp) ht.2.1.2 (nbq (by omega))
  · exact ly_r rfl (by rw [show (tb_r (127 + 1)).length = 12 from rfl, Nat.blt_eq]; exact hp) ht.2.2.2 (nbq (by omega))
theorem w_te : ∀ p, p < 18 → (tb_c (1 + 25 + p) = 2 ∧ pg_at 0 (tb_r (1 + 2)) p = 1 + 25 + p) ∧ (tb_c (64 + 25 + p) = 2 ∧ pg_at 0 (tb_r (64 + 2)) p = 64 + 25 + p) ∧ (tb_c (127 + 25 + p) = 2 ∧ pg_at 0 (tb_r (127 + 2)) p = 127 + 25 + p) := by decide +kernel
theorem w_ce {w p : Nat} (h : isW w) (hp : p < 18) : lyC (w + 25 + p) = 2 := by
  have ht := w_te p hp
  rcases h with rfl | rfl | rfl
  · exact ly_c (by rw [Nat.blt_eq]; omega) ht.1.1
  · exact ly_c (by rw [Nat.blt_eq]; omega) ht.2.1.1
  · exact ly_c (by rw [Nat.blt_eq]; omega) ht.2.2.1
theorem w_re {w p : Nat} (h : isW w) (hp : p < 18) : lyR (w + 2) p = some (w + 25 + p) := by
  have ht := w_te p hp
  rcases h with rfl | rfl | rfl
  · exact ly_r rfl (by rw [show (tb_r (1 + 2)).length = 18 from rfl, Nat.blt_eq]; exact hp) ht.1.2 (nbq (by omega))
  · exact ly_r rfl (by rw [show (tb_r (64 + 2)).length = 18 from rfl, Nat.blt_eq]; exact hp) ht.2.1.2 (nbq (by omega))
  · exact ly_r rfl (by rw [show (tb_r (127 + 2)).length = 18 from rfl, Nat.blt_eq]; exact hp) ht.2.2.2 (nbq (by omega))
theorem w_tc : ∀ p, p < 12 → (tb_c (1 + 43 + p) = 1 ∧ pg_at 0 (tb_r (1 + 3)) p = 1 + 43 + p) ∧ (tb_c (64 + 43 + p) = 1 ∧ pg_at 0 (tb_r (64 + 3)) p = 64 + 43 + p) ∧ (tb_c (127 + 43 + p) = 1 ∧ pg_at 0 (tb_r (127 + 3)) p = 127 + 43 + p) := by decide +kernel
theorem w_cc {w p : Nat} (h : isW w) (hp : p < 12) : lyC (w + 43 + p) = 1 := by
  have ht := w_tc p hp
  rcases h with rfl | rfl | rfl
  · exact ly_c (by rw [Nat.blt_eq]; omega) ht.1.1
  · exact ly_c (by rw [Nat.blt_eq]; omega) ht.2.1.1
  · exact ly_c (by rw [Nat.blt_eq]; omega) ht.2.2.1
theorem w_rc {w p : Nat} (h : isW w) (hp : p < 12) : lyR (w + 3) p = some (w + 43 + p) := by
  have ht := w_tc p hp
  rcases h with rfl | rfl | rfl
  · exact ly_r rfl (by rw [show (tb_r (1 + 3)).length = 12 from rfl, Nat.blt_eq]; exact hp) ht.1.2 (nbq (by omega))
  · exact ly_r rfl (by rw [show (tb_r (64 + 3)).length = 12 from rfl, Nat.blt_eq]; exact hp) ht.2.1.2 (nbq (by omega))
  · exact ly_r rfl (by rw [show (tb_r (127 + 3)).length = 12 from rfl, Nat.blt_eq]; exact hp) ht.2.2.2 (nbq (by omega))
theorem w_td : ∀ p, p < 8 → (tb_c (1 + 55 + p) = 9 ∧ pg_at 0 (tb_r (1 + 4)) p = 1 + 55 + p) ∧ (tb_c (64 + 55 + p) = 9 ∧ pg_at 0 (tb_r (64 + 4)) p = 64 + 55 + p) ∧ (tb_c (127 + 55 + p) = 9 ∧ pg_at 0 (tb_r (127 + 4)) p = 127 + 55 + p) := by decide +kernel
theorem w_cd {w p : Nat} (h : isW w) (hp : p < 8) : lyC (w + 55 + p) = 9 := by
  have ht := w_td p hp
  rcases h with rfl | rfl | rfl
  · exact ly_c (by rw [Nat.blt_eq]; omega) ht.1.1
  · exact ly_c (by rw [Nat.blt_eq]; omega) ht.2.1.1
  · exact ly_c (by rw [Nat.blt_eq]; omega) ht.2.2.1
theorem w_rd {w p : Nat} (h : isW w) (hp : p < 8) : lyR (w + 4) p = some (w + 55 + p) := by
  have ht := w_td p hp
  rcases h with rfl | rfl | rfl
  · exact ly_r rfl (by rw [show (tb_r (1 + 4)).length = 8 from rfl, Nat.blt_eq]; exact hp) ht.1.2 (nbq (by omega))
  · exact ly_r rfl (by rw [show (tb_r (64 + 4)).length = 8 from rfl, Nat.blt_eq]; exact hp) ht.2.1.2 (nbq (by omega))
  · exact ly_r rfl (by rw [show (tb_r (127 + 4)).length = 8 from rfl, Nat.blt_eq]; exact hp) ht.2.2.2 (nbq (by omega))
theorem l_C {l : Nat} (h : isL l) : lyC l = 3 := by rcases h with rfl | rfl | rfl | rfl <;> exact ly_c rfl rfl
theorem l_R0 {l : Nat} (h : isL l) : lyR l 0 = some (l + 1) := by rcases h with rfl | rfl | rfl | rfl <;> exact ly_r rfl rfl rfl rfl
theorem l_R1 {l : Nat} (h : isL l) : lyR l 1 = some (l + 2) := by rcases h with rfl | rfl | rfl | rfl <;> exact ly_r rfl rfl rfl rfl
theorem l_R2 {l : Nat} (h : isL l) : lyR l 2 = some (l + 3) := by rcases h with rfl | rfl | rfl | rfl <;> exact ly_r rfl rfl rfl rfl
theorem l_R3 {l : Nat} (h : isL l) : lyR l 3 = some (l + 4) := by rcases h with rfl | rfl | rfl | rfl <;> exact ly_r rfl rfl rfl rfl
theorem l_C1 {l : Nat} (h : isL l) : lyC (l + 1) = 100 := by rcases h with rfl | rfl | rfl | rfl <;> exact ly_c rfl rfl
theorem l_L1 {l : Nat} (h : isL l) : lyL (l + 1) = 10 := by rcases h with rfl | rfl | rfl | rfl <;> exact ly_l rfl rfl
theorem l_C2 {l : Nat} (h : isL l) : lyC (l + 2) = 100 := by rcases h with rfl | rfl | rfl | rfl <;> exact ly_c rfl rfl
theorem l_L2 {l : Nat} (h : isL l) : lyL (l + 2) = 10 := by rcases h with rfl | rfl | rfl | rfl <;> exact ly_l rfl rfl
theorem l_C3 {l : Nat} (h : isL l) : lyC (l + 3) = 100 := by rcases h with rfl | rfl | rfl | rfl <;> exact ly_c rfl rfl
theorem l_L3 {l : Nat} (h : isL l) : lyL (l + 3) = 11 := by rcases h with rfl | rfl | rfl | rfl <;> exact ly_l rfl rfl
theorem l_C4 {l : Nat} (h : isL l) : lyC (l + 4) = 100 := by rcases h with rfl | rfl | rfl | rfl <;> exact ly_c rfl rfl
theorem l_L4 {l : Nat} (h : isL l) : lyL (l + 4) = 200 := by rcases h with rfl | rfl | rfl | rfl <;> exact ly_l rfl rfl
theorem g_C {g w : Nat} (h : isG g w) : lyC g = 5 := by rcases h with ⟨rfl, rfl⟩ | ⟨rfl, rfl⟩ <;> exact ly_c rfl rfl
theorem g_R0 {g w : Nat} (h : isG g w) : lyR g 0 = some w := by rcases h with ⟨rfl, rfl⟩ | ⟨rfl, rfl⟩ <;> exact ly_r rfl rfl rfl rfl
theorem g_R1 {g w : Nat} (h : isG g w) : lyR g 1 = some (g + 1) := by rcases h with ⟨rfl, rfl⟩ | ⟨rfl, rfl⟩ <;> exact ly_r rfl rfl rfl rfl
theorem g_C1 {g w : Nat} (h : isG g w) : lyC (g + 1) = 102 := by rcases h with ⟨rfl, rfl⟩ | ⟨rfl, rfl⟩ <;> exact ly_c rfl rfl
theorem g_L1 {g w : Nat} (h : isG g w) : lyL (g + 1) = 12 := by rcases h with ⟨rfl, rfl⟩ | ⟨rfl, rfl⟩ <;> exact ly_l rfl rfl
theorem lc_0 : lyC 0 = 11 := ly_c rfl rfl
theorem lr_0_0 : lyR 0 0 = some 1 := ly_r rfl rfl rfl rfl
theorem lr_0_1 : lyR 0 1 = some 64 := ly_r rfl rfl rfl rfl
theorem lr_0_2 : lyR 0 2 = some 127 := ly_r rfl rfl rfl rfl
theorem lr_0_3 : lyR 0 3 = some 190 := ly_r rfl rfl rfl rfl
theorem lr_0_4 : lyR 0 4 = some 192 := ly_r rfl rfl rfl rfl
theorem lr_0_5 : lyR 0 5 = some 194 := ly_r rfl rfl rfl rfl
theorem lr_0_6 : lyR 0 6 = some 195 := ly_r rfl rfl rfl rfl
theorem lr_0_7 : lyR 0 7 = some 198 := ly_r rfl rfl rfl rfl
theorem lr_0_8 : lyR 0 8 = some 199 := ly_r rfl rfl rfl rfl
theorem lr_0_9 : lyR 0 9 = some 205 := ly_r rfl rfl rfl rfl
theorem lr_0_10 : lyR 0 10 = some 207 := ly_r rfl rfl rfl rfl
theorem lr_0_11 : lyR 0 11 = some 220 := ly_r rfl rfl rfl rfl
theorem lr_0_12 : lyR 0 12 = some 225 := ly_r rfl rfl rfl rfl
theorem lr_0_13 : lyR 0 13 = some 226 := ly_r rfl rfl rfl rfl
theorem lr_0_14 : lyR 0 14 = some 227 := ly_r rfl rfl rfl rfl
theorem lr_0_15 : lyR 0 15 = some 228 := ly_r rfl rfl rfl rfl
theorem lc_190 : lyC 190 = 5 := ly_c rfl rfl
theorem lr_190_0 : lyR 190 0 = some 1 := ly_r rfl rfl rfl rfl
theorem lr_190_1 : lyR 190 1 = some 191 := ly_r rfl rfl rfl rfl
theorem lc_191 : lyC 191 = 102 := ly_c rfl rfl
theorem ll_191 : lyL 191 = 12 := ly_l rfl rfl
theorem lc_192 : lyC 192 = 5 := ly_c rfl rfl
theorem lr_192_0 : lyR 192 0 = some 127 := ly_r rfl rfl rfl rfl
theorem lr_192_1 : lyR 192 1 = some 193 := ly_r rfl rfl rfl rfl
theorem lc_193 : lyC 193 = 102 := ly_c rfl rfl
theorem ll_193 : lyL 193 = 12 := ly_l rfl rfl
theorem lc_194 : lyC 194 = 8 := ly_c rfl rfl
theorem lr_194_0 : lyR 194 0 = some 1 := ly_r rfl rfl rfl rfl
theorem lc_195 : lyC 195 = 6 := ly_c rfl rfl
theorem lr_195_0 : lyR 195 0 = some 1 := ly_r rfl rfl rfl rfl
theorem lr_195_1 : lyR 195 1 = some 196 := ly_r rfl rfl rfl rfl
theorem lr_195_2 : lyR 195 2 = some 197 := ly_r rfl rfl rfl rfl
theorem lc_196 : lyC 196 = 100 := ly_c rfl rfl
theorem ll_196 : lyL 196 = 12 := ly_l rfl rfl
theorem lc_197 : lyC 197 = 100 := ly_c rfl rfl
theorem ll_197 : lyL 197 = 66 := ly_l rfl rfl
theorem lc_198 : lyC 198 = 101 := ly_c rfl rfl
theorem ll_198 : lyL 198 = 200 := ly_l rfl rfl
theorem lc_199 : lyC 199 = 4 := ly_c rfl rfl
theorem lr_199_0 : lyR 199 0 = some 200 := ly_r rfl rfl rfl rfl
theorem lr_199_1 : lyR 199 1 = some 198 := ly_r rfl rfl rfl rfl
theorem lc_200 : lyC 200 = 3 := ly_c rfl rfl
theorem lr_200_0 : lyR 200 0 = some 201 := ly_r rfl rfl rfl rfl
theorem lr_200_1 : lyR 200 1 = some 202 := ly_r rfl rfl rfl rfl
theorem lr_200_2 : lyR 200 2 = some 203 := ly_r rfl rfl rfl rfl
theorem lr_200_3 : lyR 200 3 = some 204 := ly_r rfl rfl rfl rfl
theorem lc_201 : lyC 201 = 100 := ly_c rfl rfl
theorem ll_201 : lyL 201 = 10 := ly_l rfl rfl
theorem lc_202 : lyC 202 = 100 := ly_c rfl rfl
theorem ll_202 : lyL 202 = 10 := ly_l rfl rfl
theorem lc_203 : lyC 203 = 100 := ly_c rfl rfl
theorem ll_203 : lyL 203 = 11 := ly_l rfl rfl
theorem lc_204 : lyC 204 = 100 := ly_c rfl rfl
theorem ll_204 : lyL 204 = 200 := ly_l rfl rfl
theorem lc_205 : lyC 205 = 0 := ly_c rfl rfl
theorem lr_205_0 : lyR 205 0 = some 206 := ly_r rfl rfl rfl rfl
theorem lc_206 : lyC 206 = 100 := ly_c rfl rfl
theorem ll_206 : lyL 206 = 30 := ly_l rfl rfl
theorem lc_207 : lyC 207 = 182 := ly_c rfl rfl
theorem ll_207 : lyL 207 = 12 := ly_l rfl rfl
theorem lr_207_0 : lyR 207 0 = some 208 := ly_r rfl rfl rfl rfl
theorem lr_207_1 : lyR 207 1 = some 209 := ly_r rfl rfl rfl rfl
theorem lr_207_2 : lyR 207 2 = some 210 := ly_r rfl rfl rfl rfl
theorem lr_207_3 : lyR 207 3 = some 211 := ly_r rfl rfl rfl rfl
theorem lr_207_4 : lyR 207 4 = some 212 := ly_r rfl rfl rfl rfl
theorem lr_207_5 : lyR 207 5 = some 213 := ly_r rfl rfl rfl rfl
theorem lr_207_6 : lyR 207 6 = some 214 := ly_r rfl rfl rfl rfl
theorem lr_207_7 : lyR 207 7 = some 215 := ly_r rfl rfl rfl rfl
theorem lr_207_8 : lyR 207 8 = some 216 := ly_r rfl rfl rfl rfl
theorem lr_207_9 : lyR 207 9 = some 217 := ly_r rfl rfl rfl rfl
theorem lr_207_10 : lyR 207 10 = some 218 := ly_r rfl rfl rfl rfl
theorem lr_207_11 : lyR 207 11 = some 219 := ly_r rfl rfl rfl rfl
theorem lc_208 : lyC 208 = 102 := ly_c rfl rfl
theorem ll_208 : lyL 208 = 3 := ly_l rfl rfl
theorem lc_209 : lyC 209 = 102 := ly_c rfl rfl
theorem ll_209 : lyL 209 = 3 := ly_l rfl rfl
theorem lc_210 : lyC 210 = 102 := ly_c rfl rfl
theorem ll_210 : lyL 210 = 3 := ly_l rfl rfl
theorem lc_211 : lyC 211 = 102 := ly_c rfl rfl
theorem ll_211 : lyL 211 = 3 := ly_l rfl rfl
theorem lc_212 : lyC 212 = 102 := ly_c rfl rfl
theorem ll_212 : lyL 212 = 3 := ly_l rfl rfl
theorem lc_213 : lyC 213 = 102 := ly_c rfl rfl
theorem ll_213 : lyL 213 = 3 := ly_l rfl rfl
theorem lc_214 : lyC 214 = 102 := ly_c rfl rfl
theorem ll_214 : lyL 214 = 3 := ly_l rfl rfl
theorem lc_215 : lyC 215 = 102 := ly_c rfl rfl
theorem ll_215 : lyL 215 = 3 := ly_l rfl rfl
theorem lc_216 : lyC 216 = 102 := ly_c rfl rfl
theorem ll_216 : lyL 216 = 3 := ly_l rfl rfl
theorem lc_217 : lyC 217 = 102 := ly_c rfl rfl
theorem ll_217 : lyL 217 = 3 := ly_l rfl rfl
theorem lc_218 : lyC 218 = 102 := ly_c rfl rfl
theorem ll_218 : lyL 218 = 3 := ly_l rfl rfl
theorem lc_219 : lyC 219 = 102 := ly_c rfl rfl
theorem ll_219 : lyL 219 = 3 := ly_l rfl rfl
theorem lc_220 : lyC 220 = 180 := ly_c rfl rfl
theorem ll_220 : lyL 220 = 4 := ly_l rfl rfl
theorem lr_220_0 : lyR 220 0 = some 221 := ly_r rfl rfl rfl rfl
theorem lr_220_1 : lyR 220 1 = some 222 := ly_r rfl rfl rfl rfl
theorem lr_220_2 : lyR 220 2 = some 223 := ly_r rfl rfl rfl rfl
theorem lr_220_3 : lyR 220 3 = some 224 := ly_r rfl rfl rfl rfl
theorem lc_221 : lyC 221 = 100 := ly_c rfl rfl
theorem ll_221 : lyL 221 = 40 := ly_l rfl rfl
theorem lc_222 : lyC 222 = 100 := ly_c rfl rfl
theorem ll_222 : lyL 222 = 40 := ly_l rfl rfl
theorem lc_223 : lyC 223 = 100 := ly_c rfl rfl
theorem ll_223 : lyL 223 = 40 := ly_l rfl rfl
theorem lc_224 : lyC 224 = 100 := ly_c rfl rfl
theorem ll_224 : lyL 224 = 40 := ly_l rfl rfl
theorem lc_225 : lyC 225 = 100 := ly_c rfl rfl
theorem ll_225 : lyL 225 = 4 := ly_l rfl rfl
theorem lc_226 : lyC 226 = 100 := ly_c rfl rfl
theorem ll_226 : lyL 226 = 4 := ly_l rfl rfl
theorem lc_227 : lyC 227 = 100 := ly_c rfl rfl
theorem ll_227 : lyL 227 = 4 := ly_l rfl rfl
theorem lc_228 : lyC 228 = 100 := ly_c rfl rfl
theorem ll_228 : lyL 228 = 4 := ly_l rfl rfl
theorem lc_229 : lyC 229 = 12 := ly_c rfl rfl
theorem lr_229_0 : lyR 229 0 = some 230 := ly_r rfl rfl rfl rfl
theorem lr_229_1 : lyR 229 1 = some 231 := ly_r rfl rfl rfl rfl
theorem lr_229_2 : lyR 229 2 = some 232 := ly_r rfl rfl rfl rfl
theorem lr_229_4 : lyR 229 4 = some 233 := ly_r rfl rfl rfl rfl
theorem lr_229_5 : lyR 229 5 = some 234 := ly_r rfl rfl rfl rfl
theorem lr_229_6 : lyR 229 6 = some 235 := ly_r rfl rfl rfl rfl
theorem lr_229_14 : lyR 229 14 = some 236 := ly_r rfl rfl rfl rfl
theorem lr_229_15 : lyR 229 15 = some 237 := ly_r rfl rfl rfl rfl
theorem lr_229_16 : lyR 229 16 = some 238 := ly_r rfl rfl rfl rfl
theorem lr_229_17 : lyR 229 17 = some 239 := ly_r rfl rfl rfl rfl
theorem lr_229_18 : lyR 229 18 = some 240 := ly_r rfl rfl rfl rfl
theorem lr_229_23 : lyR 229 23 = some 241 := ly_r rfl rfl rfl rfl
theorem lr_229_25 : lyR 229 25 = some 242 := ly_r rfl rfl rfl rfl
theorem lr_229_26 : lyR 229 26 = some 243 := ly_r rfl rfl rfl rfl
theorem lr_229_27 : lyR 229 27 = some 244 := ly_r rfl rfl rfl rfl
theorem lr_229_28 : lyR 229 28 = some 245 := ly_r rfl rfl rfl rfl
theorem lr_229_29 : lyR 229 29 = some 246 := ly_r rfl rfl rfl rfl
theorem lr_229_30 : lyR 229 30 = some 247 := ly_r rfl rfl rfl rfl
theorem lr_229_34 : lyR 229 34 = some 248 := ly_r rfl rfl rfl rfl
theorem lc_230 : lyC 230 = 100 := ly_c rfl rfl
theorem ll_230 : lyL 230 = 546 := ly_l rfl rfl
theorem lc_231 : lyC 231 = 100 := ly_c rfl rfl
theorem ll_231 : lyL 231 = 546 := ly_l rfl rfl
theorem lc_232 : lyC 232 = 100 := ly_c rfl rfl
theorem ll_232 : lyL 232 = 546 := ly_l rfl rfl
theorem lc_233 : lyC 233 = 100 := ly_c rfl rfl
theorem ll_233 : lyL 233 = 200 := ly_l rfl rfl
theorem lc_234 : lyC 234 = 100 := ly_c rfl rfl
theorem ll_234 : lyL 234 = 200 := ly_l rfl rfl
theorem lc_235 : lyC 235 = 100 := ly_c rfl rfl
theorem ll_235 : lyL 235 = 50 := ly_l rfl rfl
theorem lc_236 : lyC 236 = 100 := ly_c rfl rfl
theorem ll_236 : lyL 236 = 6 := ly_l rfl rfl
theorem lc_237 : lyC 237 = 100 := ly_c rfl rfl
theorem ll_237 : lyL 237 = 200 := ly_l rfl rfl
theorem lc_238 : lyC 238 = 100 := ly_c rfl rfl
theorem ll_238 : lyL 238 = 12 := ly_l rfl rfl
theorem lc_239 : lyC 239 = 102 := ly_c rfl rfl
theorem ll_239 : lyL 239 = 12 := ly_l rfl rfl
theorem lc_240 : lyC 240 = 100 := ly_c rfl rfl
theorem ll_240 : lyL 240 = 12 := ly_l rfl rfl
theorem lc_241 : lyC 241 = 102 := ly_c rfl rfl
theorem ll_241 : lyL 241 = 36 := ly_l rfl rfl
theorem lc_242 : lyC 242 = 100 := ly_c rfl rfl
theorem ll_242 : lyL 242 = 4 := ly_l rfl rfl
theorem lc_243 : lyC 243 = 100 := ly_c rfl rfl
theorem ll_243 : lyL 243 = 4 := ly_l rfl rfl
theorem lc_244 : lyC 244 = 100 := ly_c rfl rfl
theorem ll_244 : lyL 244 = 160 := ly_l rfl rfl
theorem lc_245 : lyC 245 = 100 := ly_c rfl rfl
theorem ll_245 : lyL 245 = 4 := ly_l rfl rfl
theorem lc_246 : lyC 246 = 100 := ly_c rfl rfl
theorem ll_246 : lyL 246 = 4 := ly_l rfl rfl
theorem lc_247 : lyC 247 = 100 := ly_c rfl rfl
theorem ll_247 : lyL 247 = 4 := ly_l rfl rfl
theorem lc_248 : lyC 248 = 100 := ly_c rfl rfl
theorem ll_248 : lyL 248 = 30 := ly_l rfl rfl
theorem rw_t : ∀ k, k < 12 → tb_c (208 + k) = 102 ∧ tb_l (208 + k) = 3 ∧ pg_at 0 (tb_r 207) k = 208 + k := by decide +kernel
theorem rw_c {k : Nat} (h : k < 12) : lyC (208 + k) = 102 := ly_c (by rw [Nat.blt_eq]; omega) (rw_t k h).1
theorem rw_l {k : Nat} (h : k < 12) : lyL (208 + k) = 3 := ly_l (by rw [Nat.blt_eq]; omega) (rw_t k h).2.1
theorem rw_r {k : Nat} (h : k < 12) : lyR 207 k = some (208 + k) := ly_r rfl (by rw [show (tb_r 207).length = 12 from rfl, Nat.blt_eq]; exact h) (rw_t k h).2.2 (nbq (by omega))
theorem sh_t : ∀ k, k < 4 → tb_c (221 + k) = 100 ∧ tb_l (221 + k) = 40 ∧ pg_at 0 (tb_r 220) k = 221 + k := by decide +kernel
theorem sh_c {k : Nat} (h : k < 4) : lyC (221 + k) = 100 := ly_c (by rw [Nat.blt_eq]; omega) (sh_t k h).1
theorem sh_l {k : Nat} (h : k < 4) : lyL (221 + k) = 40 := ly_l (by rw [Nat.blt_eq]; omega) (sh_t k h).2.1
theorem sh_r {k : Nat} (h : k < 4) : lyR 220 k = some (221 + k) := ly_r rfl (by rw [show (tb_r 220).length = 4 from rfl, Nat.blt_eq]; exact h) (sh_t k h).2.2 (nbq (by omega))
theorem lx_row {j : Nat} (h : j < 5) : lyC (2000000 + j) = 998 := ly_S.2.2.2.1 j h
theorem lx_txt {j : Nat} (h : j < 12) : lyC (4000000 + j) = 997 := ly_S.2.2.2.2.1 j h
theorem cl_m {d y b : Nat} {As : List Value} {I : mI} {J : mJ} (h1 : (Nat.blt y 272 && (am_nod (.ref b :: As) && Nat.ble (am_spr (.ref b :: As)).length (pg_mx y))) = true) (h : lyC b = pg_ow y) : am_cal (d + 1) y (.ref b :: As) (mS I J) = am_X (am_cal d) y 0 (am_ent y (.ref b :: As)) [] (mS I J) := cl_i (S := mS I J) h1 h
