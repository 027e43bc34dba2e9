/-! ===== BEGIN by program (wip/whole/gen/cells.py): the two constructors run; what lies where behind them ===== -/
def am_S0c : am_S := am_S00 0 (fun _ => 0)
def am_q1 : am_R := am_clr 3000 9 91 [.ref 0] (am_mk am_S0c 11 19)
def am_q2 (S : am_S) : am_R := am_clr 3000 9 150 [.ref 229] (am_mk S 12 37)
def tb_c_0 : List Nat := [11, 10, 110, 105, 104, 112, 100, 100, 3, 100, 100, 100, 100, 100, 7, 7]
def tb_c_1 : List Nat := [7, 7, 7, 7, 7, 7, 7, 7, 7, 7, 2, 2, 2, 2, 2, 2]
def tb_c_2 : List Nat := [2, 2, 2, 2, 2, 2, 2, 2, 2, 2, 2, 2, 1, 1, 1, 1]
def tb_c_3 : List Nat := [1, 1, 1, 1, 1, 1, 1, 1, 9, 9, 9, 9, 9, 9, 9, 9]
def tb_c_4 : List Nat := [10, 110, 105, 104, 112, 100, 100, 3, 100, 100, 100, 100, 100, 7, 7, 7]
def tb_c_5 : List Nat := [7, 7, 7, 7, 7, 7, 7, 7, 7, 2, 2, 2, 2, 2, 2, 2]
def tb_c_6 : List Nat := [2, 2, 2, 2, 2, 2, 2, 2, 2, 2, 2, 1, 1, 1, 1, 1]
def tb_c_7 : List Nat := [1, 1, 1, 1, 1, 1, 1, 9, 9, 9, 9, 9, 9, 9, 9, 10]
def tb_c_8 : List Nat := [110, 105, 104, 112, 100, 100, 3, 100, 100, 100, 100, 100, 7, 7, 7, 7]
def tb_c_9 : List Nat := [7, 7, 7, 7, 7, 7, 7, 7, 2, 2, 2, 2, 2, 2, 2, 2]
def tb_c_10 : List Nat := [2, 2, 2, 2, 2, 2, 2, 2, 2, 2, 1, 1, 1, 1, 1, 1]
def tb_c_11 : List Nat := [1, 1, 1, 1, 1, 1, 9, 9, 9, 9, 9, 9, 9, 9, 5, 102]
def tb_c_12 : List Nat := [5, 102, 8, 6, 100, 100, 101, 4, 3, 100, 100, 100, 100, 0, 100, 182]
def tb_c_13 : List Nat := [102, 102, 102, 102, 102, 102, 102, 102, 102, 102, 102, 102, 180, 100, 100, 100]
def tb_c_14 : List Nat := [100, 100, 100, 100, 100, 12, 100, 100, 100, 100, 100, 100, 100, 100, 100, 102]
def tb_c_15 : List Nat := [100, 102, 100, 100, 100, 100, 100, 100, 100]
def tb_c (a : Nat) : Nat := pg_at 999 (pg_at [] [tb_c_0, tb_c_1, tb_c_2, tb_c_3, tb_c_4, tb_c_5, tb_c_6, tb_c_7, tb_c_8, tb_c_9, tb_c_10, tb_c_11, tb_c_12, tb_c_13, tb_c_14, tb_c_15] (a / 16)) (a % 16)
def tb_l_0 : List Nat := [19, 15, 12, 18, 12, 8, 10, 10, 5, 10, 10, 11, 200, 6, 12, 12]
def tb_l_1 : List Nat := [12, 12, 12, 12, 12, 12, 12, 12, 12, 12, 3, 3, 3, 3, 3, 3]
def tb_l_2 : List Nat := [3, 3, 3, 3, 3, 3, 3, 3, 3, 3, 3, 3, 5, 5, 5, 5]
def tb_l_3 : List Nat := [5, 5, 5, 5, 5, 5, 5, 5, 4, 4, 4, 4, 4, 4, 4, 4]
def tb_l_4 : List Nat := [15, 12, 18, 12, 8, 10, 10, 5, 10, 10, 11, 200, 6, 12, 12, 12]
def tb_l_5 : List Nat := [12, 12, 12, 12, 12, 12, 12, 12, 12, 3, 3, 3, 3, 3, 3, 3]
def tb_l_6 : List Nat := [3, 3, 3, 3, 3, 3, 3, 3, 3, 3, 3, 5, 5, 5, 5, 5]
def tb_l_7 : List Nat := [5, 5, 5, 5, 5, 5, 5, 4, 4, 4, 4, 4, 4, 4, 4, 15]
def tb_l_8 : List Nat := [12, 18, 12, 8, 10, 10, 5, 10, 10, 11, 200, 6, 12, 12, 12, 12]
def tb_l_9 : List Nat := [12, 12, 12, 12, 12, 12, 12, 12, 3, 3, 3, 3, 3, 3, 3, 3]
def tb_l_10 : List Nat := [3, 3, 3, 3, 3, 3, 3, 3, 3, 3, 5, 5, 5, 5, 5, 5]
def tb_l_11 : List Nat := [5, 5, 5, 5, 5, 5, 4, 4, 4, 4, 4, 4, 4, 4, 2, 12]
def tb_l_12 : List Nat := [2, 12, 1, 3, 12, 66, 200, 7, 5, 10, 10, 11, 200, 6, 30, 12]
def tb_l_13 : List Nat := [3, 3, 3, 3, 3, 3, 3, 3, 3, 3, 3, 3, 4, 40, 40, 40]
def tb_l_14 : List Nat := [40, 4, 4, 4, 4, 37, 546, 546, 546, 200, 200, 50, 6, 200, 12, 12]
def tb_l_15 : List Nat := [12, 36, 4, 4, 160, 4, 4, 4, 30]
def tb_l (a : Nat) : Nat := pg_at 0 (pg_at [] [tb_l_0, tb_l_1, tb_l_2, tb_l_3, tb_l_4, tb_l_5, tb_l_6, tb_l_7, tb_l_8, tb_l_9, tb_l_10, tb_l_11, tb_l_12, tb_l_13, tb_l_14, tb_l_15] (a / 16)) (a % 16)
def tb_r_0 : List (List Nat) := [[1, 64, 127, 190, 192, 194, 195, 198, 199, 205, 207, 220, 225, 226, 227, 228], [2, 3, 4, 5, 6, 7, 8, 13], [14, 15, 16, 17, 18, 19, 20, 21, 22, 23, 24, 25], [26, 27, 28, 29, 30, 31, 32, 33, 34, 35, 36, 37, 38, 39, 40, 41, 42, 43], [44, 45, 46, 47, 48, 49, 50, 51, 52, 53, 54, 55], [56, 57, 58, 59, 60, 61, 62, 63], [], [], [9, 10, 11, 12], [], [], [], [], [], [], []]
def tb_r_1 : List (List Nat) := [[], [], [], [], [], [], [], [], [], [], [], [], [], [], [], []]
def tb_r_2 : List (List Nat) := [[], [], [], [], [], [], [], [], [], [], [], [], [], [], [], []]
def tb_r_3 : List (List Nat) := [[], [], [], [], [], [], [], [], [], [], [], [], [], [], [], []]
def tb_r_4 : List (List Nat) := [[65, 66, 67, 68, 69, 70, 71, 76], [77, 78, 79, 80, 81, 82, 83, 84, 85, 86, 87, 88], [89, 90, 91, 92, 93, 94, 95, 96, 97, 98, 99, 100, 101, 102, 103, 104, 105, 106], [107, 108, 109, 110, 111, 112, 113, 114, 115, 116, 117, 118], [119, 120, 121, 122, 123, 124, 125, 126], [], [], [72, 73, 74, 75], [], [], [], [], [], [], [], []]
def tb_r_5 : List (List Nat) := [[], [], [], [], [], [], [], [], [], [], [], [], [], [], [], []]
def tb_r_6 : List (List Nat) := [[], [], [], [], [], [], [], [], [], [], [], [], [], [], [], []]
def tb_r_7 : List (List Nat) := [[], [], [], [], [], [], [], [], [], [], [], [], [], [], [], [128, 129, 130, 131, 132, 133, 134, 139]]
def tb_r_8 : List (List Nat) := [[140, 141, 142, 143, 144, 145, 146, 147, 148, 149, 150, 151], [152, 153, 154, 155, 156, 157, 158, 159, 160, 161, 162, 163, 164, 165, 166, 167, 168, 169], [170, 171, 172, 173, 174, 175, 176, 177, 178, 179, 180, 181], [182, 183, 184, 185, 186, 187, 188, 189], [], [], [135, 136, 137, 138], [], [], [], [], [], [], [], [], []]
def tb_r_9 : List (List Nat) := [[], [], [], [], [], [], [], [], [], [], [], [], [], [], [], []]
def tb_r_10 : List (List Nat) := [[], [], [], [], [], [], [], [], [], [], [], [], [], [], [], []]
def tb_r_11 : List (List Nat) := [[], [], [], [], [], [], [], [], [], [], [], [], [], [], [1, 191], []]
def tb_r_12 : List (List Nat) := [[127, 193], [], [1], [1, 196, 197], [], [], [], [200, 198], [201, 202, 203, 204], [], [], [], [], [206], [], [208, 209, 210, 211, 212, 213, 214, 215, 216, 217, 218, 219]]
def tb_r_13 : List (List Nat) := [[], [], [], [], [], [], [], [], [], [], [], [], [221, 222, 223, 224], [], [], []]
def tb_r_14 : List (List Nat) := [[], [], [], [], [], [230, 231, 232, 0, 233, 234, 235, 0, 0, 0, 0, 0, 0, 0, 236, 237, 238, 239, 240, 0, 0, 0, 0, 241, 0, 242, 243, 244, 245, 246, 247, 0, 0, 0, 248], [], [], [], [], [], [], [], [], [], []]
def tb_r_15 : List (List Nat) := [[], [], [], [], [], [], [], [], []]
def tb_r (a : Nat) : List Nat := pg_at [] (pg_at [] [tb_r_0, tb_r_1, tb_r_2, tb_r_3, tb_r_4, tb_r_5, tb_r_6, tb_r_7, tb_r_8, tb_r_9, tb_r_10, tb_r_11, tb_r_12, tb_r_13, tb_r_14, tb_r_15] (a / 16)) (a % 16)
def tb_i_0 : List (List Int32) := [[], [0, 0, 0, 0, 0, 0, 0, 0, 0, 0, 0, 0, 0, 0, 1], [], [], [], [], [], [], [], [], [], [], [], [], [], []]
def tb_i_1 : List (List Int32) := [[], [], [], [], [], [], [], [], [], [], [], [], [], [], [], []]
def tb_i_2 : List (List Int32) := [[], [], [], [], [], [], [], [], [], [], [], [], [], [], [], []]
def tb_i_3 : List (List Int32) := [[], [], [], [], [], [], [], [], [], [], [], [], [], [], [], []]
def tb_i_4 : List (List Int32) := [[0, 0, 0, 0, 0, 0, 0, 0, 0, 0, 0, 0, 0, 0, 1], [], [], [], [], [], [], [], [], [], [], [], [], [], [], []]
def tb_i_5 : List (List Int32) := [[], [], [], [], [], [], [], [], [], [], [], [], [], [], [], []]
def tb_i_6 : List (List Int32) := [[], [], [], [], [], [], [], [], [], [], [], [], [], [], [], []]
def tb_i_7 : List (List Int32) := [[], [], [], [], [], [], [], [], [], [], [], [], [], [], [], [0, 0, 0, 0, 0, 0, 0, 0, 0, 0, 0, 0, 0, 0, 1]]
def tb_i_8 : List (List Int32) := [[], [], [], [], [], [], [], [], [], [], [], [], [], [], [], []]
def tb_i_9 : List (List Int32) := [[], [], [], [], [], [], [], [], [], [], [], [], [], [], [], []]
def tb_i_10 : List (List Int32) := [[], [], [], [], [], [], [], [], [], [], [], [], [], [], [], []]
def tb_i_11 : List (List Int32) := [[], [], [], [], [], [], [], [], [], [], [], [], [], [], [], []]
def tb_i_12 : List (List Int32) := [[], [], [], [], [], [], [], [], [], [], [], [], [], [], [], []]
def tb_i_13 : List (List Int32) := [[], [], [], [], [], [], [], [], [], [], [], [], [], [], [], []]
def tb_i_14 : List (List Int32) := [[], [(-1), (-1), (-1), (-1)], [], [(-1), (-1), (-1), (-1)], [], [], [0, 0, 0, 0, 0, 0, 0, 1], [], [], [], [], [], [], [], [], []]
def tb_i_15 : List (List Int32) := [[], [], [(-1), (-1), (-1), (-1)], [], [], [3, 3, 3, 3], [], [], []]
def tb_i (a : Nat) : List Int32 := pg_at [] (pg_at [] [tb_i_0, tb_i_1, tb_i_2, tb_i_3, tb_i_4, tb_i_5, tb_i_6, tb_i_7, tb_i_8, tb_i_9, tb_i_10, tb_i_11, tb_i_12, tb_i_13, tb_i_14, tb_i_15] (a / 16)) (a % 16)
def am_il : List (Nat × Nat) := [(0, 19), (1, 15), (8, 5), (205, 6), (225, 4), (226, 4), (227, 4), (228, 4), (229, 37), (230, 10), (242, 4), (243, 4), (245, 4), (246, 4), (247, 4)]
def am_cke (S : am_S) (a : Nat) : Bool := Nat.beq (am_c S a) (tb_c a) && (Nat.beq (am_l S a) (tb_l a) && (List.range (tb_r a).length).all (fun k => Nat.beq 0 (pg_at 0 (tb_r a) k) || (match am_r S a k with
  | some r => Nat.beq r (pg_at 0 (tb_r a) k)
  | none => false)))
def am_ckS (S : am_S) : Bool := Nat.beq (am_n S) 249 && (Nat.beq (am_w S) 5300 && ((List.range 249).all (am_cke S) && (((List.range 5).all (fun j => Nat.beq (am_c S (2000000 + j)) 998) && (List.range 12).all (fun j => Nat.beq (am_c S (4000000 + j)) 997)) && am_il.all (fun q => (List.range q.2).all (fun k => am_i S q.1 k == pg_at 0 (tb_i q.1) k)))))
def am_ckk : Bool := match am_q1 with
  | some (none, S) => Nat.beq (am_n S) 229 && (match am_q2 S with
    | some (none, S) => am_ckS S
    | _ => false)
  | _ => false
set_option maxRecDepth 1000000 in
theorem am_ckk_t : am_ckk = true := by decide +kernel
theorem am_kk : ∃ S1 S2, am_q1 = some (none, S1) ∧ am_n S1 = 229 ∧ am_q2 S1 = some (none, S2) ∧ am_ckS S2 = true := by
  have h := am_ckk_t
  unfold am_ckk at h
  cases h1 : am_q1 with
  | none => rw [h1] at h; cases h
  | some r =>
    obtain ⟨v, S1⟩ := r
    rw [h1] at h
    cases v with
    | some v => cases h
    | none =>
      have h : (Nat.beq (am_n S1) 229 && (match am_q2 S1 with | some (none, S) => am_ckS S | _ => false)) = true := h
      rw [Bool.and_eq_true] at h
      cases h2 : am_q2 S1 with
      | none => rw [h2] at h; exact absurd h.2 (by decide)
      | some r =>
        obtain ⟨v, S2⟩ := r
        rw [h2] at h
        cases v with
        | some v => exact absurd h.2 (by simp)
        | none => exact ⟨S1, S2, rfl, Nat.eq_of_beq_eq_true h.1, h2, h.2⟩
noncomputable def am_S1c : am_S := Classical.choose am_kk
noncomputable def am_S2c : am_S := Classical.choose (Classical.choose_spec am_kk)
theorem am_kks : am_q1 = some (none, am_S1c) ∧ am_n am_S1c = 229 ∧ am_q2 am_S1c = some (none, am_S2c) ∧ am_ckS am_S2c = true := Classical.choose_spec (Classical.choose_spec am_kk)
noncomputable def lyC : Nat → Nat := am_c am_S2c
noncomputable def lyL : Nat → Nat := am_l am_S2c
noncomputable def lyR : Nat → Nat → Option Nat := am_r am_S2c
theorem ly_S : am_n am_S2c = 249 ∧ am_w am_S2c = 5300 ∧ (∀ a, a < 249 → am_cke am_S2c a = true) ∧ (∀ j, j < 5 → lyC (2000000 + j) = 998) ∧ (∀ j, j < 12 → lyC (4000000 + j) = 997) ∧ (∀ q ∈ am_il, ∀ k, k < q.2 → am_i am_S2c q.1 k = pg_at 0 (tb_i q.1) k) := by
  have h := am_kks.2.2.2
  unfold am_ckS at h
  simp only [Bool.and_eq_true, List.all_eq_true, List.mem_range, beq_iff_eq] at h
  exact ⟨Nat.eq_of_beq_eq_true h.1, Nat.eq_of_beq_eq_true h.2.1, h.2.2.1, fun j hj => Nat.eq_of_beq_eq_true (h.2.2.2.1.1 j hj), fun j hj => Nat.eq_of_beq_eq_true (h.2.2.2.1.2 j hj), h.2.2.2.2⟩
theorem ly_e {a : Nat} (ha : a < 249) : lyC a = tb_c a ∧ lyL a = tb_l a ∧ (∀ k, k < (tb_r a).length → pg_at 0 (tb_r a) k = 0 ∨ lyR a k = some (pg_at 0 (tb_r a) k)) := by
  have h := ly_S.2.2.1 a ha
  unfold am_cke at h
  simp only [Bool.and_eq_true, List.all_eq_true, List.mem_range, Bool.or_eq_true] at h
  refine ⟨Nat.eq_of_beq_eq_true h.1, Nat.eq_of_beq_eq_true h.2.1, fun k hk => ?_⟩
  rcases h.2.2 k hk with h1 | h1
  · exact Or.inl (Nat.eq_of_beq_eq_true h1).symm
  · refine Or.inr ?_
    show am_r am_S2c a k = _
    cases hr : am_r am_S2c a k with
    | none => rw [hr] at h1; cases h1
    | some r =>
      rw [hr] at h1
      have h1 : Nat.beq r (pg_at 0 (tb_r a) k) = true := h1
      rw [Nat.eq_of_beq_eq_true h1]
theorem ly_r {a k r : Nat} (ha : Nat.blt a 249 = true) (hk : Nat.blt k (tb_r a).length = true) (hr : pg_at 0 (tb_r a) k = r) (h0 : Nat.beq r 0 = false) : lyR a k = some r := by
  rcases (ly_e (by simpa [Nat.blt_eq] using ha)).2.2 k (by simpa [Nat.blt_eq] using hk) with h | h
  · rw [hr] at h
    rw [h] at h0
    cases h0
  · rw [hr] at h
    exact h
theorem ly_c {a c : Nat} (ha : Nat.blt a 249 = true) (hc : tb_c a = c) : lyC a = c := (ly_e (by simpa [Nat.blt_eq] using ha)).1.trans hc
theorem ly_l {a c : Nat} (ha : Nat.blt a 249 = true) (hc : tb_l a = c) : lyL a = c := (ly_e (by simpa [Nat.blt_eq] using ha)).2.1.trans hc
/-- behind the two constructors: cells, slots, kinds, lengths, references don't change any more -/
noncomputable def mS (I : Nat → Nat → Int32) (J : Nat → Nat → Int64) : am_S := (249, 5300, lyC, lyL, lyR, I, J)
/-- the first ints and longs -/
noncomputable def am_I0 (L : Nat) (xs : Nat → Int32) : Nat → Nat → Int32 := fun a => cond (Nat.blt a 2000000) (am_i am_S2c a) (am_i (am_S00 L xs) a)
noncomputable def am_J0 : Nat → Nat → Int64 := am_j am_S2c
theorem am_S0_mix {L : Nat} {xs : Nat → Int32} : am_S00 L xs = am_mix (am_i (am_S00 L xs)) am_S0c := by
  have e : am_i (am_S00 L xs) = fun a => cond (Nat.blt a 2000000) (am_i am_S0c a) (am_i (am_S00 L xs) a) := by
    funext a
    cases h : Nat.blt a 2000000 with
    | false => rfl
    | true =>
      have ha : a < 2000000 := by simpa [Nat.blt_eq] using h
      funext k
      have e2 : ∀ (L : Nat) (xs : Nat → Int32), am_i (am_S00 L xs) a k = am_xf xs (a - 2000000) k := fun L xs => by
        show cond (Nat.blt a 3000000) (am_xf xs (a - 2000000) k) _ = _
        rw [am_blt_t (by omega), cond_true]
      show am_i (am_S00 L xs) a k = am_i (am_S00 0 (fun _ => 0)) a k
      rw [e2, e2, show a - 2000000 = 0 by omega]
      rfl
  show _ = (am_n am_S0c, am_w am_S0c, am_c am_S0c, am_l am_S0c, am_r am_S0c, (fun a => cond (Nat.blt a 2000000) (am_i am_S0c a) (am_i (am_S00 L xs) a)), am_j am_S0c)
  rw [← e]
  rfl
theorem am_Pc0 : am_Pc am_S0c := fun a ha => by
  show 900 ≤ cond (Nat.blt a 2000000) 999 (cond (Nat.blt a 2000005) 998 (cond (Nat.blt a 4000000) 999 (cond (Nat.blt a 4000012) 997 999)))
  cases Nat.blt a 2000000 <;> cases Nat.blt a 2000005 <;> cases Nat.blt a 4000000 <;> cases Nat.blt a 4000012 <;> decide
/-- both constructors, one behind the other -/
theorem am_start (d L : Nat) (xs : Nat → Int32) : ∃ S1, am_n S1 = 229 ∧ am_cal (d + 9) 91 [.ref 0] (am_mk (am_S00 L xs) 11 19) = some (none, S1) ∧ am_cal (d + 9) 150 [.ref 229] (am_mk S1 12 37) = some (none, mS (am_I0 L xs) am_J0) := by
  obtain ⟨h1, hn, h2, -⟩ := am_kks
  have lift : ∀ {y : Nat} {as : List Value} {S : am_S} {r : Option Value × am_S}, am_clr 3000 9 y as S = some r → am_cal (d + 9) y as S = some r := fun h => am_cal_dp (by omega) (am_clr_le 9 _ _ _ _ h)
  have m1 := am_clr_mix (ii := am_i (am_S00 L xs)) (n := 3000) 9 91 [.ref 0] (am_mk am_S0c 11 19) (am_pc_mk (by decide) am_Pc0) none am_S1c h1
  rw [← am_mix_mk (by decide), ← am_S0_mix] at m1
  have m2 := am_clr_mix (ii := am_i (am_S00 L xs)) (n := 3000) 9 150 [.ref 229] (am_mk am_S1c 12 37) (am_pc_mk (by rw [hn]; decide) m1.2) none am_S2c h2
  rw [← am_mix_mk (by rw [hn]; decide)] at m2
  refine ⟨am_mix (am_i (am_S00 L xs)) am_S1c, hn, lift m1.1, (lift m2.1).trans ?_⟩
  show some (none, (am_n am_S2c, am_w am_S2c, lyC, lyL, lyR, am_I0 L xs, am_J0)) = _
  rw [ly_S.1, ly_S.2.1]
  rfl
/-! ===== END by program ===== -/
