/-! ===== the start: behind both constructors ===== -/
def u_ck11 : Bool := match am_q1 with
  | some (none, S) => (match am_q2 S with
    | some (none, S) => decide (am_i S 11 0 = 0)
    | _ => false)
  | _ => false
set_option maxRecDepth 1000000 in
theorem u_ck11_t : u_ck11 = true := by decide +kernel
section K6s
variable {L : Nat} {xs : Nat → Int32}
theorem I0_11 : am_i am_S2c 11 0 = 0 := by
  have h := u_ck11_t
  unfold u_ck11 at h
  rw [am_kks.1] at h
  have h : (match am_q2 am_S1c with | some (none, S) => decide (am_i S 11 0 = 0) | _ => false) = true := h
  rw [am_kks.2.2.1] at h
  exact of_decide_eq_true h
theorem I0_l {a : Nat} (h : a < 2000000) : am_I0 L xs a = am_i am_S2c a := by
  unfold am_I0
  rw [am_blt_t h]
  rfl
theorem I0_i {a m k : Nat} (hq : (a, m) ∈ am_il) (ha : a < 2000000) (hk : k < m) : am_I0 L xs a k = pg_at 0 (tb_i a) k := by
  rw [I0_l ha]
  exact ly_S.2.2.2.2.2 (a, m) hq k hk
theorem I0_X : FX L xs (am_I0 L xs) := fun a ha => by
  unfold am_I0
  rw [am_blt_f ha]
  rfl
theorem I0_0 {k : Nat} (hk : k < 19) : am_I0 L xs 0 k = pg_at 0 (tb_i 0) k := I0_i (m := 19) (by decide) (by decide) hk
theorem I0_1 {k : Nat} (hk : k < 15) : am_I0 L xs 1 k = pg_at 0 (tb_i 1) k := I0_i (m := 15) (by decide) (by decide) hk
theorem I0_r {k : Nat} (hk : k < 10) : am_I0 L xs 230 k = pg_at 0 (tb_i 230) k := I0_i (m := 10) (by decide) (by decide) hk
theorem I0_m {k : Nat} (hk : k < 37) : am_I0 L xs 229 k = pg_at 0 (tb_i 229) k := I0_i (m := 37) (by decide) (by decide) hk
theorem I0_z {k : Nat} (hk : k < 7) : am_I0 L xs 230 k = nI 0 := by
  rw [I0_r (by omega)]
  rcases (show k = 0 ∨ k = 1 ∨ k = 2 ∨ k = 3 ∨ k = 4 ∨ k = 5 ∨ k = 6 by omega) with rfl | rfl | rfl | rfl | rfl | rfl | rfl <;> decide +kernel
theorem I0_c {k : Nat} (h1 : 8 ≤ k) (hk : k < 14) : am_I0 L xs 1 k = nI 0 := by
  rw [I0_1 (by omega)]
  rcases (show k = 8 ∨ k = 9 ∨ k = 10 ∨ k = 11 ∨ k = 12 ∨ k = 13 by omega) with rfl | rfl | rfl | rfl | rfl | rfl <;> decide +kernel
theorem I0_nP : nP (am_I0 L xs 230) = 0 := by unfold nP; rw [I0_z (by decide)]; exact nc_0
theorem I0_nE : nE (am_I0 L xs 230) = 0 := by unfold nE; rw [I0_z (by decide)]; exact nc_0
theorem I0_nC : nC (am_I0 L xs 230) = 0 := by unfold nC; rw [I0_z (by decide)]; exact nc_0
theorem I0_nD : nD (am_I0 L xs 230) = 0 := by unfold nD; rw [I0_z (by decide)]; exact nc_0
theorem I0_nW : nW (am_I0 L xs 230) = 0 := by unfold nW; rw [I0_z (by decide)]; exact nc_0
theorem I0_nL : nL (am_I0 L xs 230) = 0 := by unfold nL; rw [I0_z (by decide)]; exact nc_0
theorem I0_WF : WF (am_I0 L xs 230) := by
  refine ⟨⟨⟨0, by decide, I0_z (by decide)⟩, ⟨by rw [I0_nP]; decide, by rw [I0_nP]; exact I0_z (by decide)⟩, ⟨by rw [I0_nE]; decide, by rw [I0_nE]; exact I0_z (by decide)⟩, ⟨by rw [I0_nC]; decide, by rw [I0_nC]; exact I0_z (by decide)⟩, ⟨by rw [I0_nD]; decide, by rw [I0_nD]; exact I0_z (by decide)⟩, ⟨by rw [I0_nW]; decide, by rw [I0_nW]; exact I0_z (by decide)⟩, ⟨by rw [I0_nL]; decide, by rw [I0_nL]; exact I0_z (by decide)⟩⟩, ?_, ?_, ?_, ?_, ?_, ?_, ?_, ?_⟩
  · intro p hp; rw [I0_nP] at hp; omega
  · intro e he; rw [I0_nE] at he; omega
  · intro q e e' hq; rw [I0_nP] at hq; omega
  · intro e e' p he; rw [I0_nE] at he; omega
  · intro c hc; rw [I0_nC] at hc; omega
  · intro d hd; rw [I0_nD] at hd; omega
  · intro k hk; rw [I0_nW] at hk; omega
  · intro c hc; rw [I0_nL] at hc; omega
theorem I0_Rep : Rep (am_I0 L xs) 1 (am_I0 L xs 230) := by
  refine ⟨⟨?_, ?_, ?_, ?_, ?_, ?_, ?_⟩, ?_, ?_, ?_, ?_, ?_, ?_, fun _ => 0, ?_, ?_⟩
  · rw [I0_c (by decide) (by decide), I0_z (by decide)]
  · rw [I0_c (by decide) (by decide), I0_z (by decide)]
  · rw [I0_c (by decide) (by decide), I0_z (by decide)]
  · rw [I0_c (by decide) (by decide), I0_z (by decide)]
  · rw [I0_c (by decide) (by decide), I0_z (by decide)]
  · rw [I0_c (by decide) (by decide), I0_z (by decide)]
  · rw [I0_1 (by decide), I0_r (by decide)]; decide +kernel
  · intro p hp; rw [I0_nP] at hp; omega
  · intro e he; rw [I0_nE] at he; omega
  · intro c hc; rw [I0_nC] at hc; omega
  · intro k hk; rw [I0_nW] at hk; omega
  · intro d hd; rw [I0_nD] at hd; omega
  · rw [I0_z (by decide)]
    show am_I0 L xs 8 4 = nI 0
    rw [I0_i (m := 5) (by decide) (by decide) (by decide)]
    decide +kernel
  · intro i hi
    rw [I0_nL] at hi
    have hi : i = 0 := by omega
    subst hi
    refine ⟨?_, Nat.zero_le _⟩
    show am_I0 L xs 11 0 = nI 0
    rw [I0_l (by decide), I0_11]
    exact n_i0
  · intro i hi; rw [I0_nL] at hi; omega
theorem u_start : uG L xs (am_I0 L xs) am_J0 := by
  have z : ∀ {P : Prop} {k : Nat}, k < 0 → P := fun h => absurd h (Nat.not_lt_zero _)
  have q4 : ∀ {q : Nat}, q < 4 → q = 0 ∨ q = 1 ∨ q = 2 ∨ q = 3 := fun h => by omega
  refine ⟨am_I0 L xs 230, am_I0 L xs 230, false, fun _ => 0, 0, fun _ _ => 0, 0, fun _ => Int32.ofInt (-1), fun _ => 0, fun _ _ => 0, fun _ => 3, fun _ => 0, fun _ => 0, 0, fun _ => 0, ⟨I0_Rep, ⟨fun h => absurd h (by decide), fun _ => ?_⟩, ⟨?_, fun _ h => z h⟩, ⟨?_, fun _ h => z h⟩, fun q hq => ⟨?_, fun h => absurd rfl h⟩, fun q hq => Or.inr (Or.inr (Or.inr ⟨rfl, ?_⟩)), ⟨?_, by decide, fun _ h => z h⟩⟩, ⟨rfl, ⟨fun h => absurd h (by decide), fun _ => ?_⟩, ⟨?_, fun _ h => z h⟩, ⟨?_, fun _ h => z h⟩, fun q hq => ⟨?_, fun h => absurd rfl h⟩, fun q hq => ⟨(by decide : (3 : Nat) ≤ 3), ?_, fun h => absurd rfl h, fun h => absurd h (by decide : ¬ (3 : Nat) = 2)⟩, ⟨?_, by decide, fun _ h => z h⟩⟩, ⟨I0_WF, fun h => absurd h (by decide), ⟨by decide, fun _ h => z h⟩, by decide, fun q hq => ⟨Or.inl rfl, (by decide : (0 : Nat) ≤ 40)⟩⟩, I0_X⟩
  · rw [I0_0 (by decide)]; decide +kernel
  · rw [I0_0 (by decide)]; decide +kernel
  · rw [I0_0 (by decide)]; decide +kernel
  · rw [I0_i (a := 225) (m := 4) (by decide) (by decide) hq]
    rcases q4 hq with rfl | rfl | rfl | rfl <;> decide +kernel
  · rw [I0_i (a := 227) (m := 4) (by decide) (by decide) hq]
    rcases q4 hq with rfl | rfl | rfl | rfl <;> decide +kernel
  · rw [I0_i (a := 205) (m := 6) (by decide) (by decide) (by decide)]; decide +kernel
  · rw [I0_m (by decide)]; decide +kernel
  · rw [I0_m (by decide)]; decide +kernel
  · rw [I0_m (by decide)]; decide +kernel
  · rw [I0_i (a := 242) (m := 4) (by decide) (by decide) hq]
    rcases q4 hq with rfl | rfl | rfl | rfl <;> decide +kernel
  · rw [I0_i (a := 245) (m := 4) (by decide) (by decide) hq]
    rcases q4 hq with rfl | rfl | rfl | rfl <;> decide +kernel
  · rw [I0_m (by decide)]; decide +kernel
/-! the law's entry -/
theorem u_en0 {f : Nat → List Value → am_S → am_R} {S : am_S} : am_X f 274 0 [.ref 2000004, .null, .null, .null] [] S = if am_gd S [.ref 2000004, .null, .null, .null] [] = true then am_X f 274 1 [.ref 2000004, .null, .null, .null] [.ref (am_n S)] (am_mk S 11 19) else none := am_X_eq _ _ _ _ _ _
theorem u_en1 {f : Nat → List Value → am_S → am_R} {S : am_S} {a : Nat} : am_X f 274 1 [.ref 2000004, .null, .null, .null] [.ref a] S = am_X f 274 2 [.ref 2000004, .null, .null, .null] [.ref a, .ref a] S := am_X_eq _ _ _ _ _ _
theorem u_en2 {f : Nat → List Value → am_S → am_R} {S : am_S} {a : Nat} : am_X f 274 2 [.ref 2000004, .null, .null, .null] [.ref a, .ref a] S = if am_gd S [.ref 2000004, .null, .null, .null] [.ref a] = true ∧ am_cat [.ref a] ≤ 8 ∧ 1 = 1 ∧ 0 = 0 then am_bV (f 91 [.ref a] S) (fun S => am_X f 274 3 [.ref 2000004, .null, .null, .null] [.ref a] S) else none := am_X_eq _ _ _ _ _ _
theorem u_en3 {f : Nat → List Value → am_S → am_R} {S : am_S} {a : Nat} : am_X f 274 3 [.ref 2000004, .null, .null, .null] [.ref a] S = am_X f 274 4 [.ref 2000004, .ref a, .null, .null] [] S := am_X_eq _ _ _ _ _ _
theorem u_en4 {f : Nat → List Value → am_S → am_R} {S : am_S} {a : Nat} : am_X f 274 4 [.ref 2000004, .ref a, .null, .null] [] S = if am_gd S [.ref 2000004, .ref a, .null, .null] [] = true then am_X f 274 5 [.ref 2000004, .ref a, .null, .null] [.ref (am_n S)] (am_mk S 12 37) else none := am_X_eq _ _ _ _ _ _
theorem u_en5 {f : Nat → List Value → am_S → am_R} {S : am_S} {a b : Nat} : am_X f 274 5 [.ref 2000004, .ref a, .null, .null] [.ref b] S = am_X f 274 6 [.ref 2000004, .ref a, .null, .null] [.ref b, .ref b] S := am_X_eq _ _ _ _ _ _
theorem u_en6 {f : Nat → List Value → am_S → am_R} {S : am_S} {a b : Nat} : am_X f 274 6 [.ref 2000004, .ref a, .null, .null] [.ref b, .ref b] S = if am_gd S [.ref 2000004, .ref a, .null, .null] [.ref b] = true ∧ am_cat [.ref b] ≤ 8 ∧ 1 = 1 ∧ 0 = 0 then am_bV (f 150 [.ref b] S) (fun S => am_X f 274 7 [.ref 2000004, .ref a, .null, .null] [.ref b] S) else none := am_X_eq _ _ _ _ _ _
theorem u_en7 {f : Nat → List Value → am_S → am_R} {S : am_S} {a b : Nat} : am_X f 274 7 [.ref 2000004, .ref a, .null, .null] [.ref b] S = am_X f 274 8 [.ref 2000004, .ref a, .ref b, .null] [] S := am_X_eq _ _ _ _ _ _
theorem u_en8 {f : Nat → List Value → am_S → am_R} {S : am_S} {a b : Nat} : am_X f 274 8 [.ref 2000004, .ref a, .ref b, .null] [] S = am_X f 274 9 [.ref 2000004, .ref a, .ref b, .null] [.int (nI 0)] S := am_X_eq _ _ _ _ _ _
theorem u_en9 {f : Nat → List Value → am_S → am_R} {S : am_S} {a b : Nat} : am_X f 274 9 [.ref 2000004, .ref a, .ref b, .null] [.int (nI 0)] S = am_X f 274 10 [.ref 2000004, .ref a, .ref b, .int (nI 0)] [] S := am_X_eq _ _ _ _ _ _
theorem bVe {o : am_R} {k : am_S → am_R} {S : am_S} (h : o = some (none, S)) : am_bV o k = k S := by rw [h]; rfl
theorem u_run (hL : L ≤ 3072) : ∃ n I J, am_run (am_cal 1000) 274 n 0 (am_ent 274 [.ref 2000004]) [] (am_S00 L xs) = some (some (.int 1), mS I J) := by
  obtain ⟨S1, hn, h1, h2⟩ := am_start 991 L xs
  obtain ⟨I', J', hl⟩ := u_loop hL 600 0 (am_I0 L xs) am_J0 (by omega) (by omega) u_start
  have E := u_en0 (f := am_cal 1000) (S := am_S00 L xs)
  replace E := E.trans (if_pos (rfl : am_gd (am_S00 L xs) [.ref 2000004, .null, .null, .null] [] = true))
  replace E := E.trans u_en1
  replace E := E.trans u_en2
  replace E := E.trans (if_pos ⟨rfl, Nat.le_of_ble_eq_true rfl, rfl, rfl⟩)
  replace E := E.trans (bVe h1)
  replace E := E.trans u_en3
  replace E := E.trans u_en4
  have g1 : am_gd S1 [.ref 2000004, .ref (am_n (am_S00 L xs)), .null, .null] [] = true := by
    unfold am_gd
    rw [hn]
    rfl
  replace E := E.trans (if_pos g1)
  rw [hn] at E
  replace E := E.trans u_en5
  replace E := E.trans u_en6
  have g2 : am_gd (am_mk S1 12 37) [.ref 2000004, .ref (am_n (am_S00 L xs)), .null, .null] [.ref 229] = true := by
    unfold am_gd
    rw [show am_n (am_mk S1 12 37) = 230 from by show am_n S1 + 1 = 230; rw [hn]]
    rfl
  replace E := E.trans (if_pos ⟨g2, Nat.le_of_ble_eq_true rfl, rfl, rfl⟩)
  replace E := E.trans (bVe h2)
  replace E := E.trans u_en7
  replace E := E.trans u_en8
  replace E := E.trans u_en9
  replace E := E.trans hl
  obtain ⟨n, hr⟩ := am_X_to E
  exact ⟨n, I', J', by rw [n_i1]; exact hr⟩
end K6s
