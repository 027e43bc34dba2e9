/-! ===== the law's calls: what changes more than the world ===== -/
section K4s
variable {I I' I1 I2 : mI} {J J' J1 J2 : mJ} {s s' t : Rw} {b : Bool} {A : Nat → Nat} {n m r L : Nat} {R : Nat → Nat → Int64} {S : Nat → Int32} {Z : Nat → Nat} {T : Nat → Nat → Int32} {W : Nat → Nat} {H Y : Nat → Int32} {D xs : Nat → Int32} {as : List Value} {v : Value} {x y z u w : Int32} {kx ky c : Nat}
theorem u_9 {y : Int64} (h : uG L xs I J) : ∃ a, uA L xs I J 101 177 [.long y, .int x] (.int a) := by
  obtain ⟨s, t, b, A, n, R, m, S, Z, T, W, H, Y, r, D, hC, hM, hN, hX⟩ := h
  obtain ⟨I1, a1, a2, a3, a4⟩ := k101 (d := 999) (J := J) (y := y) (x := x) hN.2.2.1 hC.2.2.1
  have hM1 : uM I1 J s t b A n R m S Z T W H Y r D := hM.near (fun a h1 _ => a1 a (by omega) (by omega)) rfl
  have hX1 : FX L xs I1 := hX.fr fun a h1 => a1 a (by omega) (by omega)
  obtain ⟨I2, b1, b2, b3, b4⟩ := m177 (d := 998) (J := J) (I := I1) (y := y) (x := x) hN.2.2.1 hM1.2.2.1
  have hN' : uN s t b (tr_fT A n y x) (tr_fn n x) m S Z := ⟨hN.1, hN.2.1, fed_ok hN.2.2.1, hN.2.2.2⟩
  have hC1 : uC I1 J s t b (tr_fT A n y x) (tr_fn n x) R m S Z T W H Y r D := ⟨hC.1.fr hN.1 fun a h1 h2 h3 => a1 a (by omega) (by omega), hC.2.1.fr hN.tW (a2 16 (by decide)) fun a h1 h2 => a1 a (by omega) (by omega), a3, hC.2.2.2.1.fr (a2 18 (by decide)) hN.2.2.2.1 fun _ _ _ => rfl, hC.2.2.2.2.1.fr fun a h1 h2 => a1 a (by omega) (by omega), hC.2.2.2.2.2.1.fr (a1 227 (by decide) (by decide)) (a1 228 (by decide) (by decide)), hC.2.2.2.2.2.2.fr (a1 205 (by decide) (by decide)) (a1 206 (by decide) (by decide))⟩
  have hM2 : uM I2 J s t b (tr_fT A n y x) (tr_fn n x) R m S Z T W H Y r D := ⟨(b1 230 (by decide) (by decide)).trans hM1.1, hM1.2.1.fr (b2 3 (by decide)) (b1 231 (by decide) (by decide)), b3, hM1.2.2.2.1.fr (b2 24 (by decide)) rfl, hM1.2.2.2.2.1.fr fun a h1 h2 => b1 a (by omega) (by omega), hM1.2.2.2.2.2.1.fr (b1 245 (by decide) (by decide)) (b1 246 (by decide) (by decide)) (b1 247 (by decide) (by decide)), hM1.2.2.2.2.2.2.fr (b2 35 (by decide)) (b1 248 (by decide) (by decide))⟩
  exact ⟨_, I1, J, I2, J, a4, hX1, b4, s, t, b, _, _, R, m, S, Z, T, W, H, Y, r, D, hC1.far hN' (fun a h => b1 a (by omega) (by omega)) (fun _ _ => rfl), hM2, hN', hX1.fr fun a h => b1 a (by omega) (by omega)⟩
theorem u_10 (h : uG L xs I J) : ∃ a, uA L xs I J 102 194 [] (.int a) := by
  obtain ⟨s, t, b, A, n, R, m, S, Z, T, W, H, Y, r, D, hC, hM, hN, hX⟩ := h
  obtain ⟨I1, a1, a2, a3, a4, a5⟩ := k102 (d := 970) (J := J) hX hN.2.2.1 hC.2.2.1 hC.1 hN.1
  have hM1 : uM I1 J s t b A n R m S Z T W H Y r D := hM.near (fun a h1 _ => a1 a (by omega) (by omega) (by omega)) rfl
  have hX1 : FX L xs I1 := hX.fr fun a h1 => a1 a (by omega) (by omega) (by omega)
  obtain ⟨I2, b1, b2, b3, b4⟩ := m194 (d := 966) (J := J) (I := I1) hN.2.2.1 hM1.2.2.1
  rw [hM1.1] at b2
  obtain ⟨w1, w2⟩ := W_law hN.2.2.1 hN.1
  have hN' : uN (tr_law s A n) t b A 0 m S Z := (fun (q : uN (tr_law s A n) t b A n m S Z) => ⟨q.1, q.2.1, ⟨Nat.zero_le _, fun k hk => absurd hk (Nat.not_lt_zero _)⟩, q.2.2.2⟩) (hN.wr w1 w2)
  have hC1 : uC I1 J (tr_law s A n) t b A 0 R m S Z T W H Y r D := ⟨a4, hC.2.1.fr hN.tW (a2 16 (by decide)) fun a h1 h2 => a1 a (by omega) (by omega) (by omega), ⟨a3, fun k hk => absurd hk (Nat.not_lt_zero _)⟩, hC.2.2.2.1.fr (a2 18 (by decide)) hN.2.2.2.1 fun _ _ _ => rfl, hC.2.2.2.2.1.fr fun a h1 h2 => a1 a (by omega) (by omega) (by omega), hC.2.2.2.2.2.1.fr (a1 227 (by decide) (by decide) (by decide)) (a1 228 (by decide) (by decide) (by decide)), hC.2.2.2.2.2.2.fr (a1 205 (by decide) (by decide) (by decide)) (a1 206 (by decide) (by decide) (by decide))⟩
  have f1 := b1.1
  have f2 := b1.2
  have hM2 : uM I2 J (tr_law s A n) t b A 0 R m S Z T W H Y r D := ⟨b2, hM1.2.1.fr (f2 3 (by decide)) (f1 231 (by decide) (by decide) (by decide) (by decide)), ⟨b3, fun k hk => absurd hk (Nat.not_lt_zero _)⟩, hM1.2.2.2.1.fr (f2 24 (by decide)) rfl, hM1.2.2.2.2.1.fr fun a h1 h2 => f1 a (by omega) (by omega) (by omega) (by omega), hM1.2.2.2.2.2.1.fr (f1 245 (by decide) (by decide) (by decide) (by decide)) (f1 246 (by decide) (by decide) (by decide) (by decide)) (f1 247 (by decide) (by decide) (by decide) (by decide)), hM1.2.2.2.2.2.2.fr (f2 35 (by decide)) (f1 248 (by decide) (by decide) (by decide) (by decide))⟩
  exact ⟨_, I1, J, I2, J, a5, hX1, b4, _, t, b, A, 0, R, m, S, Z, T, W, H, Y, r, D, hC1.far hN' (fun a h => f1 a (by omega) (by omega) (by omega) (by omega)) (fun _ _ => rfl), hM2, hN', hX1.fr fun a h => f1 a (by omega) (by omega) (by omega) (by omega)⟩
theorem u_29 (h : uG L xs I J) : ∃ a, uA L xs I J 122 241 [.int x] (.int a) := by
  obtain ⟨s, t, b, A, n, R, m, S, Z, T, W, H, Y, r, D, hC, hM, hN, hX⟩ := h
  by_cases hx : isCl s x
  · obtain ⟨c, hc, rfl⟩ := isCl_n hN.1 hx
    have h12 := hN.1.nP.1
    have hle : rwN (shA s c) (nP s) ≤ nP s := rwN_le
    obtain ⟨I1, J1, a1, a2, a3, a4, a5⟩ := k122 (d := 993) (J := J) hC.1 hN.1 hc
    have f1 : ∀ a, a ≠ 13 → a ≠ 0 → I1 a = I a := fun a h1 h2 => funext fun f => a1 a f h1 (Or.inl h2)
    have hM1 : uM I1 J1 s t b A n R m S Z T W H Y r D := hM.near (fun a h1 _ => f1 a (by omega) (by omega)) (a3 241 (by decide) (by decide))
    have hX1 : FX L xs I1 := hX.fr fun a h1 => f1 a (by omega) (by omega)
    have e := hM1.1
    subst e
    obtain ⟨I2, J2, b1, b2, b3, b4, b5⟩ := m241 (d := 991) (J := J1) (I := I1) hN.1 hc
    have g1 : ∀ a, a ≠ 236 → a ≠ 237 → a ≠ 238 → a ≠ 229 → I2 a = I1 a := fun a h1 h2 h3 h4 => funext fun f => b1 a f h1 h2 h3 (Or.inl h4)
    have hN' : uN (I1 230) t b A n (rwN (shA (I1 230) c) (nP (I1 230))) S Z := ⟨hN.1, hN.2.1, hN.2.2.1, by omega, hN.2.2.2.2⟩
    have hC1 : uC I1 J1 (I1 230) t b A n (rwV (shA (I1 230) c) (nP (I1 230))) (rwN (shA (I1 230) c) (nP (I1 230))) S Z T W H Y r D := ⟨hC.1.fr hN.1 fun a h1 h2 h3 => f1 a (by omega) (by omega), hC.2.1.fr hN.tW (a1 0 16 (by decide) (by decide)) fun a h1 h2 => f1 a (by omega) (by omega), hC.2.2.1.fr (a1 0 17 (by decide) (by decide)) (f1 198 (by decide) (by decide)), ⟨a2, a4⟩, hC.2.2.2.2.1.fr fun a h1 h2 => f1 a (by omega) (by omega), hC.2.2.2.2.2.1.fr (f1 227 (by decide) (by decide)) (f1 228 (by decide) (by decide)), hC.2.2.2.2.2.2.fr (f1 205 (by decide) (by decide)) (f1 206 (by decide) (by decide))⟩
    have k1 : ∀ k, k ≠ 24 → I2 229 k = I1 229 k := fun k hk => b1 229 k (by decide) (by decide) (by decide) (Or.inr hk)
    have hM2 : uM I2 J2 (I1 230) t b A n (rwV (shA (I1 230) c) (nP (I1 230))) (rwN (shA (I1 230) c) (nP (I1 230))) S Z T W H Y r D := ⟨g1 230 (by decide) (by decide) (by decide) (by decide), hM1.2.1.fr (k1 3 (by decide)) (g1 231 (by decide) (by decide) (by decide) (by decide)), hM1.2.2.1.fr (k1 7 (by decide)) (g1 233 (by decide) (by decide) (by decide) (by decide)), ⟨b2, b4⟩, hM1.2.2.2.2.1.fr fun a h1 h2 => g1 a (by omega) (by omega) (by omega) (by omega), hM1.2.2.2.2.2.1.fr (g1 245 (by decide) (by decide) (by decide) (by decide)) (g1 246 (by decide) (by decide) (by decide) (by decide)) (g1 247 (by decide) (by decide) (by decide) (by decide)), hM1.2.2.2.2.2.2.fr (k1 35 (by decide)) (g1 248 (by decide) (by decide) (by decide) (by decide))⟩
    exact ⟨_, I1, J1, I2, J2, a5, hX1, b5, _, t, b, A, n, _, _, S, Z, T, W, H, Y, r, D, hC1.far hN' (fun a h => g1 a (by omega) (by omega) (by omega) (by omega)) (fun a h => b3 a (by omega) (by omega)), hM2, hN', hX1.fr fun a h => g1 a (by omega) (by omega) (by omega) (by omega)⟩
  · have a3 := k122n (d := 998) (J := J) hC.1 hx
    refine ⟨_, uQ hC hM hN hX ⟨I, J, QC_r, a3⟩ fun I1 J1 hM1 => ?_⟩
    have e := hM1.1
    subst e
    have b3 := m241n (d := 997) (J := J1) (I := I1) hN.1 hx
    exact ⟨I1, J1, QM_r, b3⟩
theorem u_31 {l : Int64} (h : uG L xs I J) : ∃ a, uA L xs I J 124 243 [.int x, .int y, .long l] (.long a) := by
  obtain ⟨s, t, b, A, n, R, m, S, Z, T, W, H, Y, r, D, hC, hM, hN, hX⟩ := h
  have a3 := k124 (d := 998) (I := I) (J := J) (x := x) (y := y) (L := l) hN.2.2.2.1 hC.2.2.2.1.1 hC.2.2.2.1.2
  generalize hJ1 : (if okRo m x y then wJ J (208 + x.toNatClampNeg) y.toNatClampNeg l else J) = J1 at a3
  have h12 := hN.2.2.2.1
  have j1 : ∀ a, (a < 208 ∨ 220 ≤ a) → J1 a = J a := fun a ha => by
    rw [← hJ1]
    by_cases ho : okRo m x y
    · rw [if_pos ho]
      obtain ⟨k, hk, rfl⟩ := n_below (n := m) (by omega) ho.1.1 ho.1.2
      rw [nI_clamp (by omega)]
      exact funext fun f => wJ_ne (by omega)
    · rw [if_neg ho]
  have hM1 : uM I J1 s t b A n R m S Z T W H Y r D := hM.near (fun a h1 _ => rfl) (j1 241 (by decide))
  have b3 := m243 (d := 998) (I := I) (J := J1) (x := x) (y := y) (L := l) hN.2.2.2.1 hM1.2.2.2.1.1 hM1.2.2.2.1.2
  generalize hJ2 : (if okRo m x y then wJ J1 241 (3 * x.toNatClampNeg + y.toNatClampNeg) l else J1) = J2 at b3
  have j2 : ∀ a, a ≠ 241 → J2 a = J1 a := fun a ha => by
    rw [← hJ2]
    by_cases ho : okRo m x y
    · rw [if_pos ho]; exact funext fun f => wJ_ne ha
    · rw [if_neg ho]
  have hy3 : okRo m x y → y.toNatClampNeg < 3 := fun ho => by
    obtain ⟨k, hk, rfl⟩ := n_below (n := 3) (x := y) (by decide) ho.2.1 (by
      have := ho.2.2
      rw [Int32.lt_iff_toInt_lt] at this ⊢
      have e2 : (nI 2).toInt = 2 := by decide
      have e3 : (nI 3).toInt = 3 := by decide
      omega)
    rw [nI_clamp (by omega)]; exact hk
  have hP1 : uPC I J1 (fun k i => if okRo m x y ∧ k = x.toNatClampNeg ∧ i = y.toNatClampNeg then l else R k i) m := ⟨hC.2.2.2.1.1, fun k hk i hi => by
    have e := hC.2.2.2.1.2 k hk i hi
    show J1 (208 + k) i = if okRo m x y ∧ k = x.toNatClampNeg ∧ i = y.toNatClampNeg then l else R k i
    rw [← hJ1]
    by_cases ho : okRo m x y
    · rw [if_pos ho]
      by_cases hki : k = x.toNatClampNeg ∧ i = y.toNatClampNeg
      · rw [if_pos ⟨ho, hki⟩, hki.1, hki.2]; exact wJ_eq
      · rw [if_neg (fun hh => hki hh.2)]
        exact (if_neg (fun hh => hki ⟨by have := hh.1; omega, hh.2⟩)).trans e
    · rw [if_neg ho, if_neg (fun hh => ho hh.1)]; exact e⟩
  have hP2 : uPM I J2 (fun k i => if okRo m x y ∧ k = x.toNatClampNeg ∧ i = y.toNatClampNeg then l else R k i) m := ⟨hM1.2.2.2.1.1, fun k hk i hi => by
    have e := hM1.2.2.2.1.2 k hk i hi
    show J2 241 (3 * k + i) = if okRo m x y ∧ k = x.toNatClampNeg ∧ i = y.toNatClampNeg then l else R k i
    rw [← hJ2]
    by_cases ho : okRo m x y
    · have h3 := hy3 ho
      rw [if_pos ho]
      by_cases hki : k = x.toNatClampNeg ∧ i = y.toNatClampNeg
      · rw [if_pos ⟨ho, hki⟩, hki.1, hki.2]; exact wJ_eq
      · rw [if_neg (fun hh => hki hh.2)]
        exact (if_neg (fun hh => hki (by have := hh.2; constructor <;> omega))).trans e
    · rw [if_neg ho, if_neg (fun hh => ho hh.1)]; exact e⟩
  exact ⟨_, I, J1, I, J2, a3, hX, b3, s, t, b, A, n, _, m, S, Z, T, W, H, Y, r, D, ⟨hC.1, hC.2.1, hC.2.2.1, hP1.fr rfl h12 fun a h1 h2 => j2 a (by omega), hC.2.2.2.2⟩, ⟨hM1.1, hM1.2.1, hM1.2.2.1, hP2, hM1.2.2.2.2⟩, hN, hX⟩
theorem u_33 (h : uG L xs I J) : ∃ a, uA L xs I J 128 246 [.int x, .int y, .int z] (.int a) := by
  obtain ⟨s, t, b, A, n, R, m, S, Z, T, W, H, Y, r, D, hC, hM, hN, hX⟩ := h
  obtain ⟨I1, a1, a2, a3⟩ := k128 (d := 998) (J := J) (x := x) (y := y) (z := z) hC.2.2.2.2.1
  have hM1 : uM I1 J s t b A n R m S Z T W H Y r D := hM.near (fun a h1 _ => a1 a (by omega)) rfl
  have hX1 : FX L xs I1 := hX.fr fun a h1 => a1 a (by omega)
  obtain ⟨I2, b1, b2, b3⟩ := m246 (d := 997) (J := J) (I := I1) (x := x) (y := y) (z := z) hN.2.2.2.2 hM1.2.2.2.2.1
  have hN' : uN s t b A n m (tr_S S x y z) (tr_Z Z x y z) := ⟨hN.1, hN.2.1, hN.2.2.1, hN.2.2.2.1, wfS_tr hN.2.2.2.2⟩
  have hC1 : uC I1 J s t b A n R m (tr_S S x y z) (tr_Z Z x y z) (tr_T T x y z) W H Y r D := ⟨hC.1.fr hN.1 fun a h1 h2 h3 => a1 a (by omega), hC.2.1.fr hN.tW (by rw [a1 0 (by decide)]) fun a h1 h2 => a1 a (by omega), hC.2.2.1.fr (by rw [a1 0 (by decide)]) (a1 198 (by decide)), hC.2.2.2.1.fr (by rw [a1 0 (by decide)]) hN.2.2.2.1 fun _ _ _ => rfl, a2, hC.2.2.2.2.2.1.fr (a1 227 (by decide)) (a1 228 (by decide)), hC.2.2.2.2.2.2.fr (a1 205 (by decide)) (a1 206 (by decide))⟩
  have g29 := b1 229 (by decide) (by decide) (by decide)
  have hM2 : uM I2 J s t b A n R m (tr_S S x y z) (tr_Z Z x y z) (tr_T T x y z) W H Y r D := ⟨(b1 230 (by decide) (by decide) (by decide)).trans hM1.1, hM1.2.1.fr (by rw [g29]) (b1 231 (by decide) (by decide) (by decide)), hM1.2.2.1.fr (by rw [g29]) (b1 233 (by decide) (by decide) (by decide)), hM1.2.2.2.1.fr (by rw [g29]) rfl, b2, hM1.2.2.2.2.2.1.fr (b1 245 (by decide) (by decide) (by decide)) (b1 246 (by decide) (by decide) (by decide)) (b1 247 (by decide) (by decide) (by decide)), hM1.2.2.2.2.2.2.fr (by rw [g29]) (b1 248 (by decide) (by decide) (by decide))⟩
  exact ⟨_, I1, J, I2, J, a3, hX1, b3, s, t, b, A, n, R, m, _, _, _, W, H, Y, r, D, hC1.far hN' (fun a h => b1 a (by omega) (by omega) (by omega)) (fun _ _ => rfl), hM2, hN', hX1.fr fun a h => b1 a (by omega) (by omega) (by omega)⟩
theorem u_34 (h : uG L xs I J) : ∃ a, uA L xs I J 129 248 [.int x, .int y, .int z] (.int a) := by
  obtain ⟨s, t, b, A, n, R, m, S, Z, T, W, H, Y, r, D, hC, hM, hN, hX⟩ := h
  obtain ⟨I1, a1, a2, a3⟩ := k129 (d := 998) (J := J) (x := x) (y := y) (z := z) hN.2.2.2.2 hC.2.2.2.2.1
  have hM1 : uM I1 J s t b A n R m S Z T W H Y r D := hM.near (fun a h1 _ => a1 a (by omega)) rfl
  have hX1 : FX L xs I1 := hX.fr fun a h1 => a1 a (by omega)
  obtain ⟨I2, b1, b2, b3⟩ := m248 (d := 997) (J := J) (I := I1) (x := x) (y := y) (z := z) hN.2.2.2.2 hM1.2.2.2.2.1
  have hN' : uN s t b A n m (S) (Z) := ⟨hN.1, hN.2.1, hN.2.2.1, hN.2.2.2.1, hN.2.2.2.2⟩
  have hC1 : uC I1 J s t b A n R m (S) (Z) (tr_P S Z T x y z) W H Y r D := ⟨hC.1.fr hN.1 fun a h1 h2 h3 => a1 a (by omega), hC.2.1.fr hN.tW (by rw [a1 0 (by decide)]) fun a h1 h2 => a1 a (by omega), hC.2.2.1.fr (by rw [a1 0 (by decide)]) (a1 198 (by decide)), hC.2.2.2.1.fr (by rw [a1 0 (by decide)]) hN.2.2.2.1 fun _ _ _ => rfl, a2, hC.2.2.2.2.2.1.fr (a1 227 (by decide)) (a1 228 (by decide)), hC.2.2.2.2.2.2.fr (a1 205 (by decide)) (a1 206 (by decide))⟩
  have g29 := b1 229 (by decide) (by decide) (by decide)
  have hM2 : uM I2 J s t b A n R m (S) (Z) (tr_P S Z T x y z) W H Y r D := ⟨(b1 230 (by decide) (by decide) (by decide)).trans hM1.1, hM1.2.1.fr (by rw [g29]) (b1 231 (by decide) (by decide) (by decide)), hM1.2.2.1.fr (by rw [g29]) (b1 233 (by decide) (by decide) (by decide)), hM1.2.2.2.1.fr (by rw [g29]) rfl, b2, hM1.2.2.2.2.2.1.fr (b1 245 (by decide) (by decide) (by decide)) (b1 246 (by decide) (by decide) (by decide)) (b1 247 (by decide) (by decide) (by decide)), hM1.2.2.2.2.2.2.fr (by rw [g29]) (b1 248 (by decide) (by decide) (by decide))⟩
  exact ⟨_, I1, J, I2, J, a3, hX1, b3, s, t, b, A, n, R, m, _, _, _, W, H, Y, r, D, hC1.far hN' (fun a h => b1 a (by omega) (by omega) (by omega)) (fun _ _ => rfl), hM2, hN', hX1.fr fun a h => b1 a (by omega) (by omega) (by omega)⟩
theorem u_37 (h : uG L xs I J) : ∃ a, uA L xs I J 132 252 [.int x, .int y, .int z] (.int a) := by
  obtain ⟨s, t, b, A, n, R, m, S, Z, T, W, H, Y, r, D, hC, hM, hN, hX⟩ := h
  obtain ⟨I1, a1, a2, a3⟩ := k132 (d := 997) (J := J) (x := x) (y := y) (z := z) hN.2.2.2.2 hC.2.2.2.2.1 hC.2.2.2.2.2.1 hC.1 hN.1
  have hM1 : uM I1 J s t b A n R m S Z T W H Y r D := hM.near (fun a h1 _ => a1 a (by omega) (by omega)) rfl
  have hX1 : FX L xs I1 := hX.fr fun a h1 => a1 a (by omega) (by omega)
  have e := hM1.1
  subst e
  obtain ⟨I2, b1, b2, b3⟩ := m252 (d := 997) (J := J) (I := I1) (x := x) (y := y) (z := z) hN.2.2.2.2 hM1.2.2.2.2.1 hM1.2.2.2.2.2.1 hN.1
  have hC1 : uC I1 J (I1 230) t b A n R m S Z T (tr_W (I1 230) S W x y z) (tr_H (I1 230) S H x y z) (tr_Y (I1 230) S Z Y x y z) r D := ⟨hC.1.fr hN.1 fun a h1 h2 h3 => a1 a (by omega) (by omega), hC.2.1.fr hN.tW (by rw [a1 0 (by decide) (by decide)]) fun a h1 h2 => a1 a (by omega) (by omega), hC.2.2.1.fr (by rw [a1 0 (by decide) (by decide)]) (a1 198 (by decide) (by decide)), hC.2.2.2.1.fr (by rw [a1 0 (by decide) (by decide)]) hN.2.2.2.1 fun _ _ _ => rfl, hC.2.2.2.2.1.fr fun a h1 h2 => a1 a (by omega) (by omega), a2, hC.2.2.2.2.2.2.fr (a1 205 (by decide) (by decide)) (a1 206 (by decide) (by decide))⟩
  have g29 := b1 229 (by decide) (by decide) (by decide)
  have hM2 : uM I2 J (I1 230) t b A n R m S Z T (tr_W (I1 230) S W x y z) (tr_H (I1 230) S H x y z) (tr_Y (I1 230) S Z Y x y z) r D := ⟨b1 230 (by decide) (by decide) (by decide), hM1.2.1.fr (by rw [g29]) (b1 231 (by decide) (by decide) (by decide)), hM1.2.2.1.fr (by rw [g29]) (b1 233 (by decide) (by decide) (by decide)), hM1.2.2.2.1.fr (by rw [g29]) rfl, hM1.2.2.2.2.1.fr fun a h1 h2 => b1 a (by omega) (by omega) (by omega), b2, hM1.2.2.2.2.2.2.fr (by rw [g29]) (b1 248 (by decide) (by decide) (by decide))⟩
  exact ⟨_, I1, J, I2, J, a3, hX1, b3, _, t, b, A, n, R, m, S, Z, T, _, _, _, r, D, hC1.far hN (fun a h => b1 a (by omega) (by omega) (by omega)) (fun _ _ => rfl), hM2, hN, hX1.fr fun a h => b1 a (by omega) (by omega) (by omega)⟩
theorem u_39 (h : uG L xs I J) : ∃ a, uA L xs I J 134 266 [.int x, .int y, .int z] (.int a) := by
  obtain ⟨s, t, b, A, n, R, m, S, Z, T, W, H, Y, r, D, hC, hM, hN, hX⟩ := h
  obtain ⟨I1, a1, a2, a3⟩ := k134 (d := 991) (J := J) (x := x) (y := y) (z := z) hX hC.2.2.2.2.2.1 hC.1 hN.1
  have hM1 : uM I1 J s t b A n R m S Z T W H Y r D := hM.near (fun a h1 _ => a1 a (by omega) (by omega)) rfl
  have hX1 : FX L xs I1 := hX.fr fun a h1 => a1 a (by omega) (by omega)
  have e := hM1.1
  subst e
  obtain ⟨I2, ⟨b1, c1⟩, b2, b3⟩ := m266 (d := 991) (J := J) (I := I1) (x := x) (y := y) (z := z) hM1.2.2.2.2.2.1 hN.1
  have hC1 : uC I1 J (I1 230) t b A n R m S Z T W H Y (v_act (I1 230) W H x y z).2.1 (v_act (I1 230) W H x y z).2.2.1 := ⟨hC.1.fr hN.1 fun a h1 h2 h3 => a1 a (by omega) (by omega), hC.2.1.fr hN.tW (by rw [a1 0 (by decide) (by decide)]) fun a h1 h2 => a1 a (by omega) (by omega), hC.2.2.1.fr (by rw [a1 0 (by decide) (by decide)]) (a1 198 (by decide) (by decide)), hC.2.2.2.1.fr (by rw [a1 0 (by decide) (by decide)]) hN.2.2.2.1 fun _ _ _ => rfl, hC.2.2.2.2.1.fr fun a h1 h2 => a1 a (by omega) (by omega), hC.2.2.2.2.2.1.fr (a1 227 (by decide) (by decide)) (a1 228 (by decide) (by decide)), a2⟩
  have hM2 : uM I2 J (I1 230) t b A n R m S Z T W H Y (v_act (I1 230) W H x y z).2.1 (v_act (I1 230) W H x y z).2.2.1 := ⟨b1 230 (by decide) (by decide), hM1.2.1.fr (c1 3 (by decide)) (b1 231 (by decide) (by decide)), hM1.2.2.1.fr (c1 7 (by decide)) (b1 233 (by decide) (by decide)), hM1.2.2.2.1.fr (c1 24 (by decide)) rfl, hM1.2.2.2.2.1.fr fun a h1 h2 => b1 a (by omega) (by omega), hM1.2.2.2.2.2.1.fr (b1 245 (by decide) (by decide)) (b1 246 (by decide) (by decide)) (b1 247 (by decide) (by decide)), b2⟩
  exact ⟨_, I1, J, I2, J, a3, hX1, b3, _, t, b, A, n, R, m, S, Z, T, W, H, Y, _, _, hC1.far hN (fun a h => b1 a (by omega) (by omega)) (fun _ _ => rfl), hM2, hN, hX1.fr fun a h => b1 a (by omega) (by omega)⟩
theorem u_42 (h : uG L xs I J) : ∃ a, uA L xs I J 137 269 [] (.int a) := by
  obtain ⟨s, t, b, A, n, R, m, S, Z, T, W, H, Y, r, D, hC, hM, hN, hX⟩ := h
  obtain ⟨I1, a1, a2, a3, a4, a5⟩ := k137 (d := 997) (J := J) hC.1 hN.1
  have hM1 : uM I1 J s t b A n R m S Z T W H Y r D := hM.near (fun a h1 _ => a1 a (by omega) (by omega)) rfl
  have hX1 : FX L xs I1 := hX.fr fun a h1 => a1 a (by omega) (by omega)
  have b3 := m269 (d := 999) (I := I1) (J := J)
  generalize hI2 : wI (cpA I1 230 231 546) 229 3 (nI 1) = I2 at b3
  have e1 : ¬ nI 1 = (0 : Int32) := by decide
  have b1 : ∀ a, a ≠ 229 → a ≠ 231 → I2 a = I1 a := fun a h1 h2 => by
    rw [← hI2]
    exact funext fun f => (wI_ne h1).trans (by rw [cpA_n h2])
  have b2 : ∀ f, f ≠ 3 → I2 229 f = I1 229 f := fun f hf => by
    rw [← hI2]
    exact (wI_nk hf).trans (by rw [cpA_n (by decide)])
  have b4 : I2 229 3 = nI 1 := by rw [← hI2]; exact wI_eq
  have b5 : ∀ j, j < 546 → I2 231 j = I1 230 j := fun j hj => by
    rw [← hI2]
    exact (wI_ne (by decide)).trans (cpA_e hj)
  have hN' : uN s s true A n m S Z := ⟨hN.1, fun _ => ⟨hN.1, hiS_r⟩, hN.2.2⟩
  have hC1 : uC I1 J s s true A n R m S Z T W H Y r D := ⟨hC.1.fr hN.1 fun a h1 h2 h3 => a1 a (by omega) (by omega), ⟨fun _ => ⟨by rw [a3]; exact e1, a4⟩, fun hb => absurd hb (by decide)⟩, hC.2.2.1.fr (a2 17 (by decide)) (a1 198 (by decide) (by decide)), hC.2.2.2.1.fr (a2 18 (by decide)) hN.2.2.2.1 fun _ _ _ => rfl, hC.2.2.2.2.1.fr fun a h1 h2 => a1 a (by omega) (by omega), hC.2.2.2.2.2.1.fr (a1 227 (by decide) (by decide)) (a1 228 (by decide) (by decide)), hC.2.2.2.2.2.2.fr (a1 205 (by decide) (by decide)) (a1 206 (by decide) (by decide))⟩
  have hM2 : uM I2 J s s true A n R m S Z T W H Y r D := ⟨(b1 230 (by decide) (by decide)).trans hM1.1, ⟨fun _ => ⟨by rw [b4]; exact e1, fun j hj => by rw [b5 j hj, hM1.1]⟩, fun hb => absurd hb (by decide)⟩, hM1.2.2.1.fr (b2 7 (by decide)) (b1 233 (by decide) (by decide)), hM1.2.2.2.1.fr (b2 24 (by decide)) rfl, hM1.2.2.2.2.1.fr fun a h1 h2 => b1 a (by omega) (by omega), hM1.2.2.2.2.2.1.fr (b1 245 (by decide) (by decide)) (b1 246 (by decide) (by decide)) (b1 247 (by decide) (by decide)), hM1.2.2.2.2.2.2.fr (b2 35 (by decide)) (b1 248 (by decide) (by decide))⟩
  exact ⟨_, I1, J, I2, J, a5, hX1, b3, s, s, true, A, n, R, m, S, Z, T, W, H, Y, r, D, hC1.far hN' (fun a h => b1 a (by omega) (by omega)) (fun _ _ => rfl), hM2, hN', hX1.fr fun a h => b1 a (by omega) (by omega)⟩
theorem u_43 (h : uG L xs I J) : ∃ a, uA L xs I J 138 270 [] (.int a) := by
  obtain ⟨s, t, b, A, n, R, m, S, Z, T, W, H, Y, r, D, hC, hM, hN, hX⟩ := h
  cases b with
  | false =>
    have a3 := k138n (d := 999) (I := I) (J := J) (hC.2.1.2 rfl)
    refine ⟨_, uQ hC hM hN hX ⟨I, J, QC_r, a3⟩ fun I1 J1 hM1 => ?_⟩
    have b3 := m270n (d := 999) (J := J1) (I := I1) (hM1.2.1.2 rfl)
    exact ⟨I1, J1, QM_r, b3⟩
  | true =>
    obtain ⟨hk, hR⟩ := hC.2.1.1 rfl
    obtain ⟨hW, hh⟩ := hN.2.1 rfl
    obtain ⟨I1, a1, a2, a3⟩ := k138 (d := 997) (J := J) hk hR hW
    have hM1 : uM I1 J s t true A n R m S Z T W H Y r D := hM.near (fun a h1 _ => a1 a (by omega)) rfl
    have hX1 : FX L xs I1 := hX.fr fun a h1 => a1 a (by omega)
    obtain ⟨hk1, hj1⟩ := hM1.2.1.1 rfl
    have b3 := m270 (d := 999) (I := I1) (J := J) hk1
    have b0 : cpA I1 231 230 546 = wR I1 t := by
      funext c j
      by_cases hc : c = 230
      · subst hc
        by_cases hj : j < 546
        · exact (cpA_e hj).trans ((hj1 j hj).trans (congrFun wR_r j).symm)
        · exact (cpA_o hj).trans ((congrFun hM1.1 j).trans ((hh j (by omega)).symm.trans (congrFun wR_r j).symm))
      · rw [cpA_n hc, wR_n hc]
    rw [b0] at b3
    have hN' : uN t t true A n m S Z := ⟨hW, fun _ => ⟨hW, hiS_r⟩, hN.2.2⟩
    have hC1 : uC I1 J t t true A n R m S Z T W H Y r D := hC.fr hN (a1 0 (by decide)) a2 (fun a h1 h2 h3 => a1 a (by omega)) fun _ _ _ => rfl
    exact ⟨_, I1, J, wR I1 t, J, a3, hX1, b3, t, t, true, A, n, R, m, S, Z, T, W, H, Y, r, D, hC1.far hN' (fun a h => wR_n (by omega)) (fun _ _ => rfl), hM1.wr, hN', hX1.fr fun a h => wR_n (by omega)⟩
end K4s
