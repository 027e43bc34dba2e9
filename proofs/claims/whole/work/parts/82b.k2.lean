/-! ===== between two calls ===== -/
def uKC (I : mI) (t : Rw) (b : Bool) : Prop := (b = true → ¬ I 0 16 = 0 ∧ Rep I 64 t) ∧ (b = false → I 0 16 = 0)
def uKM (I : mI) (t : Rw) (b : Bool) : Prop := (b = true → ¬ I 229 3 = 0 ∧ ∀ j, j < 546 → I 231 j = t j) ∧ (b = false → I 229 3 = 0)
def uPC (I : mI) (J : mJ) (R : Nat → Nat → Int64) (m : Nat) : Prop := I 0 18 = nI m ∧ ∀ k, k < m → ∀ i, i < 3 → J (208 + k) i = R k i
def uPM (I : mI) (J : mJ) (R : Nat → Nat → Int64) (m : Nat) : Prop := I 229 24 = nI m ∧ ∀ k, k < m → ∀ i, i < 3 → J 241 (3 * k + i) = R k i
def uC (I : mI) (J : mJ) (s t : Rw) (b : Bool) (A : Nat → Nat) (n : Nat) (R : Nat → Nat → Int64) (m : Nat) (S : Nat → Int32) (Z : Nat → Nat) (T : Nat → Nat → Int32) (W : Nat → Nat) (H Y : Nat → Int32) (r : Nat) (D : Nat → Int32) : Prop :=
  Rep I 1 s ∧ uKC I t b ∧ TpC I A n ∧ uPC I J R m ∧ ShC I S Z T ∧ SlC I W H Y ∧ TrC I r D
def uM (I : mI) (J : mJ) (s t : Rw) (b : Bool) (A : Nat → Nat) (n : Nat) (R : Nat → Nat → Int64) (m : Nat) (S : Nat → Int32) (Z : Nat → Nat) (T : Nat → Nat → Int32) (W : Nat → Nat) (H Y : Nat → Int32) (r : Nat) (D : Nat → Int32) : Prop :=
  I 230 = s ∧ uKM I t b ∧ TpM I A n ∧ uPM I J R m ∧ ShM I S Z T ∧ SlM I W H Y ∧ TrM I r D
def uN (s t : Rw) (b : Bool) (A : Nat → Nat) (n m : Nat) (S : Nat → Int32) (Z : Nat → Nat) : Prop :=
  WF s ∧ (b = true → WF t ∧ hiS t s) ∧ okT A n ∧ m ≤ 12 ∧ wfS S Z
def uG (L : Nat) (xs : Nat → Int32) (I : mI) (J : mJ) : Prop :=
  ∃ s t b A n R m S Z T W H Y r D, uC I J s t b A n R m S Z T W H Y r D ∧ uM I J s t b A n R m S Z T W H Y r D ∧ uN s t b A n m S Z ∧ FX L xs I
/-- both calls, one behind the other: one answer, and all goes on holding -/
def uA (L : Nat) (xs : Nat → Int32) (I : mI) (J : mJ) (x y : Nat) (as : List Value) (v : Value) : Prop :=
  ∃ I1 J1 I2 J2, am_cal 1000 x (.ref 0 :: as) (mS I J) = some (some v, mS I1 J1) ∧ FX L xs I1 ∧ am_cal 1000 y (.ref 229 :: as) (mS I1 J1) = some (some v, mS I2 J2) ∧ uG L xs I2 J2
/-- what a question of the class, and one of the model, may leave otherwise -/
abbrev QC (I' I : mI) (J' J : mJ) : Prop := (∀ a, (a < 127 ∨ 198 ≤ a) → a ≠ 13 → I' a = I a) ∧ ∀ a, 208 ≤ a → J' a = J a
abbrev QM (I' I : mI) (J' J : mJ) : Prop := (∀ a, a ≠ 229 → a ≠ 232 → a ≠ 236 → a ≠ 237 → a ≠ 238 → a ≠ 240 → I' a = I a) ∧ (∀ k, (k < 19 ∨ 22 < k) → (k < 31 ∨ 33 < k) → I' 229 k = I 229 k) ∧ ∀ a, a ≠ 239 → J' a = J a
section K2s
variable {I I' I1 I2 : mI} {J J' J1 J2 : mJ} {s s' t : Rw} {b : Bool} {A : Nat → Nat} {n m r L : Nat} {R : Nat → Nat → Int64} {S : Nat → Int32} {Z : Nat → Nat} {T : Nat → Nat → Int32} {W : Nat → Nat} {H Y : Nat → Int32} {D xs : Nat → Int32} {as : List Value} {v : Value} {x y z u w : Int32} {kx ky : Nat}
/-! what a frame lets through -/
theorem TpC.fr (h : TpC I A n) (e0 : I' 0 17 = I 0 17) (e1 : I' 198 = I 198) : TpC I' A n := ⟨e0.trans h.1, fun k hk => by rw [e1]; exact h.2 k hk⟩
theorem TpM.fr (h : TpM I A n) (e0 : I' 229 7 = I 229 7) (e1 : I' 233 = I 233) : TpM I' A n := ⟨e0.trans h.1, fun k hk => by rw [e1]; exact h.2 k hk⟩
theorem ShC.fr (h : ShC I S Z T) (e : ∀ a, 221 ≤ a → a < 227 → I' a = I a) : ShC I' S Z T := fun q hq => by
  rw [e 225 (by decide) (by decide), e 226 (by decide) (by decide), e (221 + q) (by omega) (by omega)]
  exact h q hq
theorem ShM.fr (h : ShM I S Z T) (e : ∀ a, 242 ≤ a → a < 245 → I' a = I a) : ShM I' S Z T := fun q hq => by
  rw [e 242 (by decide) (by decide), e 243 (by decide) (by decide), e 244 (by decide) (by decide)]
  exact h q hq
theorem SlC.fr (h : SlC I W H Y) (e0 : I' 227 = I 227) (e1 : I' 228 = I 228) : SlC I' W H Y := fun q hq => by
  rw [e0, e1]
  exact h q hq
theorem TrC.fr (h : TrC I r D) (e0 : I' 205 = I 205) (e1 : I' 206 = I 206) : TrC I' r D := ⟨by rw [e0]; exact h.1, h.2.1, fun j hj => by rw [e1]; exact h.2.2 j hj⟩
theorem TrM.fr (h : TrM I r D) (e0 : I' 229 35 = I 229 35) (e1 : I' 248 = I 248) : TrM I' r D := ⟨e0.trans h.1, h.2.1, fun j hj => by rw [e1]; exact h.2.2 j hj⟩
theorem uKC.fr (h : uKC I t b) (hW : b = true → WF t) (e0 : I' 0 16 = I 0 16) (e : ∀ a, 64 ≤ a → a < 127 → I' a = I a) : uKC I' t b := ⟨fun hb => ⟨by rw [e0]; exact (h.1 hb).1, (h.1 hb).2.fr (hW hb) fun a h1 h2 _ => e a h1 (by omega)⟩, fun hb => e0.trans (h.2 hb)⟩
theorem uKM.fr (h : uKM I t b) (e0 : I' 229 3 = I 229 3) (e : I' 231 = I 231) : uKM I' t b := ⟨fun hb => ⟨by rw [e0]; exact (h.1 hb).1, fun j hj => by rw [e]; exact (h.1 hb).2 j hj⟩, fun hb => e0.trans (h.2 hb)⟩
theorem uPC.fr (h : uPC I J R m) (e0 : I' 0 18 = I 0 18) (hm : m ≤ 12) (e : ∀ a, 208 ≤ a → a < 220 → J' a = J a) : uPC I' J' R m := ⟨e0.trans h.1, fun k hk i hi => by rw [e (208 + k) (by omega) (by omega)]; exact h.2 k hk i hi⟩
theorem uPM.fr (h : uPM I J R m) (e0 : I' 229 24 = I 229 24) (e : J' 241 = J 241) : uPM I' J' R m := ⟨e0.trans h.1, fun k hk i hi => by rw [e]; exact h.2 k hk i hi⟩
theorem FX.fr (h : FX L xs I) (e : ∀ a, 249 ≤ a → I' a = I a) : FX L xs I' := fun a ha => by rw [e a (by omega)]; exact h a ha
theorem uN.tW (h : uN s t b A n m S Z) : b = true → WF t := fun hb => (h.2.1 hb).1
theorem uN.wr (h : uN s t b A n m S Z) (hW : WF s') (hh : hiS s' s) : uN s' t b A n m S Z := ⟨hW, fun hb => ⟨h.tW hb, fun j hj => ((h.2.1 hb).2 j hj).trans (hh j hj).symm⟩, h.2.2⟩
/-! the class's side, the model's side, through a frame -/
theorem uC.fr (h : uC I J s t b A n R m S Z T W H Y r D) (hN : uN s t b A n m S Z) (e0 : I' 0 = I 0) (hR : Rep I' 1 s') (e : ∀ a, 64 ≤ a → a < 229 → (a < 127 ∨ 198 ≤ a) → I' a = I a) (ej : ∀ a, 208 ≤ a → a < 220 → J' a = J a) : uC I' J' s' t b A n R m S Z T W H Y r D :=
  ⟨hR, h.2.1.fr hN.tW (by rw [e0]) fun a h1 h2 => e a h1 (by omega) (Or.inl h2), h.2.2.1.fr (by rw [e0]) (e 198 (by decide) (by decide) (by decide)), h.2.2.2.1.fr (by rw [e0]) hN.2.2.2.1 ej, h.2.2.2.2.1.fr fun a h1 h2 => e a (by omega) (by omega) (Or.inr (by omega)), h.2.2.2.2.2.1.fr (e 227 (by decide) (by decide) (by decide)) (e 228 (by decide) (by decide) (by decide)), h.2.2.2.2.2.2.fr (e 205 (by decide) (by decide) (by decide)) (e 206 (by decide) (by decide) (by decide))⟩
theorem uC.q (h : uC I J s t b A n R m S Z T W H Y r D) (hN : uN s t b A n m S Z) (hq : QC I' I J' J) : uC I' J' s t b A n R m S Z T W H Y r D :=
  h.fr hN (hq.1 0 (by decide) (by decide)) (h.1.fr hN.1 fun a h1 h2 h3 => hq.1 a (Or.inl (by omega)) h3) (fun a h1 h2 h3 => hq.1 a h3 (by omega)) fun a h1 _ => hq.2 a h1
theorem uC.p (h : uC I J s t b A n R m S Z T W H Y r D) (hN : uN s t b A n m S Z) (hq : FP I' I) (hR : Rep I' 1 s') : uC I' J s' t b A n R m S Z T W H Y r D :=
  h.fr hN (hq 0 (by decide) (by decide) (by decide)) hR (fun a h1 h2 h3 => hq a (Or.inr h1) (by omega) (by omega)) fun a h1 _ => rfl
theorem uC.far (h : uC I J s t b A n R m S Z T W H Y r D) (hN : uN s t b A n m S Z) (e : ∀ a, a < 229 → I' a = I a) (ej : ∀ a, a < 229 → J' a = J a) : uC I' J' s t b A n R m S Z T W H Y r D :=
  h.fr hN (e 0 (by decide)) (h.1.fr hN.1 fun a h1 h2 h3 => e a (by omega)) (fun a h1 h2 h3 => e a h2) fun a h1 h2 => ej a (by omega)
theorem uM.fr (h : uM I J s t b A n R m S Z T W H Y r D) (e30 : I' 230 = s') (e0 : ∀ k, (k = 3 ∨ k = 7 ∨ k = 24 ∨ k = 35) → I' 229 k = I 229 k) (e : ∀ a, 231 ≤ a → a < 249 → a ≠ 232 → (a < 236 ∨ 240 < a) → I' a = I a) (ej : J' 241 = J 241) : uM I' J' s' t b A n R m S Z T W H Y r D :=
  ⟨e30, h.2.1.fr (e0 3 (by decide)) (e 231 (by decide) (by decide) (by decide) (by decide)), h.2.2.1.fr (e0 7 (by decide)) (e 233 (by decide) (by decide) (by decide) (by decide)), h.2.2.2.1.fr (e0 24 (by decide)) ej, h.2.2.2.2.1.fr fun a h1 h2 => e a (by omega) (by omega) (by omega) (Or.inr (by omega)), h.2.2.2.2.2.1.fr (e 245 (by decide) (by decide) (by decide) (by decide)) (e 246 (by decide) (by decide) (by decide) (by decide)) (e 247 (by decide) (by decide) (by decide) (by decide)), h.2.2.2.2.2.2.fr (e0 35 (by decide)) (e 248 (by decide) (by decide) (by decide) (by decide))⟩
theorem uM.q (h : uM I J s t b A n R m S Z T W H Y r D) (hq : QM I' I J' J) : uM I' J' s t b A n R m S Z T W H Y r D :=
  h.fr ((hq.1 230 (by decide) (by decide) (by decide) (by decide) (by decide) (by decide)).trans h.1) (fun k hk => hq.2.1 k (by omega) (by omega)) (fun a h1 h2 h3 h4 => hq.1 a (by omega) h3 (by omega) (by omega) (by omega) (by omega)) (hq.2.2 241 (by decide))
theorem uM.wr (h : uM I J s t b A n R m S Z T W H Y r D) : uM (wR I s') J s' t b A n R m S Z T W H Y r D :=
  h.fr wR_r (fun k _ => by rw [wR_n (by decide)]) (fun a h1 _ _ _ => wR_n (by omega)) rfl
theorem uM.near (h : uM I J s t b A n R m S Z T W H Y r D) (e : ∀ a, 229 ≤ a → a < 249 → I' a = I a) (ej : J' 241 = J 241) : uM I' J' s t b A n R m S Z T W H Y r D :=
  h.fr ((e 230 (by decide) (by decide)).trans h.1) (fun k _ => by rw [e 229 (by decide) (by decide)]) (fun a h1 h2 _ _ => e a (by omega) h2) ej
theorem wR_far : ∀ a, a ≠ 230 → wR I s a = I a := fun a h => wR_n h
/-! frames of questions -/
theorem QC_r : QC I I J J := ⟨fun _ _ _ => rfl, fun _ _ => rfl⟩
theorem QC_13 (h : F1 13 I' I) : QC I' I J J := ⟨fun a _ h3 => h a h3, fun _ _ => rfl⟩
theorem QC_C (h : FC I' I) : QC I' I J J := ⟨fun a h1 h3 => h a h3 (by omega) (by omega), fun _ _ => rfl⟩
theorem QC_CG (h : FC I' I) (g : GC J' J) : QC I' I J' J := ⟨fun a h1 h3 => h a h3 (by omega) (by omega), fun a h1 => g a (by omega) (by omega)⟩
theorem QC_Y (h : FY I' I) (g : GC J' J) : QC I' I J' J := ⟨fun a h1 h3 => h a (by omega) h3, fun a h1 => g a (by omega) (by omega)⟩
theorem QC_Q (h : FQ I' I) (g : G1 193 J' J) : QC I' I J' J := ⟨fun a h1 h3 => h a (by omega), fun a h1 => g a (by omega)⟩
theorem QM_r : QM I I J J := ⟨fun _ _ _ _ _ _ _ => rfl, fun _ _ _ => rfl, fun _ _ => rfl⟩
theorem QM_2 (h : F2 236 237 I' I) : QM I' I J J := ⟨fun a _ _ h3 h4 _ _ => h a h3 h4, fun k _ _ => by rw [h 229 (by decide) (by decide)], fun _ _ => rfl⟩
theorem QM_40 (h : F1 240 I' I) : QM I' I J J := ⟨fun a _ _ _ _ _ h6 => h a h6, fun k _ _ => by rw [h 229 (by decide)], fun _ _ => rfl⟩
theorem QM_MG (h : FM I' I) (g : GM J' J) : QM I' I J' J := ⟨fun a h1 _ h3 h4 h5 h6 => h.1 a h1 h3 h4 h5 h6, fun k h1 _ => h.2 k h1, g⟩
theorem QM_M (h : FM I' I) : QM I' I J J := QM_MG h fun _ _ => rfl
theorem QM_T (h : FT I' I) : QM I' I J J := ⟨fun a h1 _ _ _ _ _ => h.1 a h1, fun k _ h2 => h.2 k h2, fun _ _ => rfl⟩
theorem QM_Y (h : FYM I' I) (g : GM J' J) : QM I' I J' J := ⟨fun a _ h2 h3 h4 h5 _ => h a h2 h3 h4 h5, fun k _ _ => by rw [h 229 (by decide) (by decide) (by decide) (by decide)], g⟩
/-! a question; a call that writes the world -/
theorem uQ (hC : uC I J s t b A n R m S Z T W H Y r D) (hM : uM I J s t b A n R m S Z T W H Y r D) (hN : uN s t b A n m S Z) (hX : FX L xs I)
    (hc : ∃ I1 J1, QC I1 I J1 J ∧ am_cal 1000 kx (.ref 0 :: as) (mS I J) = some (some v, mS I1 J1))
    (hm : ∀ I1 J1, uM I1 J1 s t b A n R m S Z T W H Y r D → ∃ I2 J2, QM I2 I1 J2 J1 ∧ am_cal 1000 ky (.ref 229 :: as) (mS I1 J1) = some (some v, mS I2 J2)) : uA L xs I J kx ky as v := by
  obtain ⟨I1, J1, q1, c1⟩ := hc
  have hM1 : uM I1 J1 s t b A n R m S Z T W H Y r D := hM.near (fun a h1 _ => q1.1 a (by omega) (by omega)) (q1.2 241 (by decide))
  have hX1 : FX L xs I1 := hX.fr fun a h1 => q1.1 a (by omega) (by omega)
  obtain ⟨I2, J2, q2, c2⟩ := hm I1 J1 hM1
  exact ⟨I1, J1, I2, J2, c1, hX1, c2, s, t, b, A, n, R, m, S, Z, T, W, H, Y, r, D, (hC.q hN q1).far hN (fun a h => q2.1 a (by omega) (by omega) (by omega) (by omega) (by omega) (by omega)) (fun a h => q2.2.2 a (by omega)), hM1.q q2, hN, hX1.fr fun a h => q2.1 a (by omega) (by omega) (by omega) (by omega) (by omega) (by omega)⟩
theorem uW (hC : uC I J s t b A n R m S Z T W H Y r D) (hM : uM I J s t b A n R m S Z T W H Y r D) (hN : uN s t b A n m S Z) (hX : FX L xs I) (hW : WF s') (hh : hiS s' s)
    (hc : ∃ I1, FP I1 I ∧ Rep I1 1 s' ∧ am_cal 1000 kx (.ref 0 :: as) (mS I J) = some (some v, mS I1 J))
    (hm : ∀ I1 J1, uM I1 J1 s t b A n R m S Z T W H Y r D → ∃ I2, FM I2 I1 ∧ am_cal 1000 ky (.ref 229 :: as) (mS I1 J1) = some (some v, mS (wR I2 s') J1)) : uA L xs I J kx ky as v := by
  obtain ⟨I1, q1, hR1, c1⟩ := hc
  have hM1 : uM I1 J s t b A n R m S Z T W H Y r D := hM.near (fun a h1 _ => q1 a (by omega) (by omega) (by omega)) rfl
  have hX1 : FX L xs I1 := hX.fr fun a h1 => q1 a (by omega) (by omega) (by omega)
  obtain ⟨I2, q2, c2⟩ := hm I1 J hM1
  have hN' := hN.wr hW hh
  exact ⟨I1, J, wR I2 s', J, c1, hX1, c2, s', t, b, A, n, R, m, S, Z, T, W, H, Y, r, D, (hC.p hN q1 hR1).far hN' (fun a h => by rw [wR_n (by omega)]; exact q2.1 a (by omega) (by omega) (by omega) (by omega) (by omega)) (fun a h => rfl), (hM1.q (QM_M q2)).wr, hN', hX1.fr fun a h => by rw [wR_n (by omega)]; exact q2.1 a (by omega) (by omega) (by omega) (by omega) (by omega)⟩
end K2s
