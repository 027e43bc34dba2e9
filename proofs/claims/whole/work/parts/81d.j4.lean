/-! ===== words ===== -/
def swS (T : Nat → Nat) (t : Tok) (c : Nat) (f : Option Nat) : Option Nat := match f with
  | none => none
  | some i => if t.1 + i < t.2 ∧ T (t.1 + i) = c then some (i + 1) else none
def sw (T : Nat → Nat) (t : Tok) : List Nat → Option Nat → Option Nat
  | [], f => f
  | c :: cs, f => sw T t cs (swS T t c f)
abbrev wdW (T : Nat → Nat) (t : Tok) (w : List Nat) : Prop := sw T t w (some 0) = some (t.2 - t.1)
def plc (T : Nat → Nat) (t : Tok) : List (List Nat) → Nat → Int32
  | [], _ => Int32.ofInt (-1)
  | w :: ws, p => if wdW T t w then nI p else plc T t ws (p + 1)
def scn (T : Nat → Nat) (t : Tok) : List Nat → Nat → Option Nat → Int32
  | [], p, f => if f = some (t.2 - t.1) then nI p else Int32.ofInt (-1)
  | c :: cs, p, f => if c = 32 then (if f = some (t.2 - t.1) then nI p else scn T t cs (p + 1) (some 0)) else scn T t cs p (swS T t c f)
def jnW : List (List Nat) → List Nat
  | [] => []
  | [w] => w
  | w :: ws => w ++ 32 :: jnW ws
def txW (i : Nat) : List (List Nat) := [[[102, 105, 114, 115, 116], [99, 111, 112, 121], [115, 104, 97, 114, 101, 100], [97, 108, 108]], [[98, 111, 100, 121], [109, 101, 109, 111, 114, 121], [114, 111, 111, 116]], [[101, 97, 99, 104], [114, 111, 111, 116], [115, 104, 97, 114, 101]], [[109, 97, 107, 101, 114], [99, 111, 112, 121], [98, 111, 116, 104], [110, 111, 110, 101]], [[102, 114, 101, 101], [110, 101, 101, 100, 101, 100]], [[114, 101, 115, 116, 115], [98, 101, 97, 114, 115]], [[111, 119, 101, 115], [111, 119, 110, 115], [98, 108, 97, 109, 101], [118, 111, 116, 101], [119, 101, 100], [108, 101, 97, 118, 101], [115, 108, 101, 101, 112]], [[105, 102]], [[111, 114]], [[97, 110, 100]], [[110, 111, 116]], [[100, 97, 121], [109, 97, 100, 101], [103, 97, 112], [107, 105, 110, 100], [97, 109, 111, 117, 110, 116], [104, 101, 108, 100]]].getD i []
abbrev okK (n : Nat) (t : Tok) : Prop := t.1 ≤ t.2 ∧ t.2 ≤ n ∧ (t.1 < n → t.1 < t.2)
def fI : Option Nat → Int32
  | none => Int32.ofInt (-1)
  | some i => nI i
section J4s
variable {I I' : mI} {J : mJ} {d k n q p i c m a e b L : Nat} {x y z u v : Int32} {T : Nat → Nat} {t : Tok} {w cs : List Nat} {ws : List (List Nat)} {f : Option Nat} {xs : Nat → Int32}
theorem lx_ok (h : e ≤ n) : okK n (lx T n e) := by
  have := lx_le (T := T) h
  exact ⟨this.2.1, this.2.2.1, this.2.2.2⟩
theorem scn_w (h : ∀ c, c ∈ w → ltr c) : ∀ p f, scn T t w p f = if sw T t w f = some (t.2 - t.1) then nI p else Int32.ofInt (-1) := by
  induction w with
  | nil => intro p f; rfl
  | cons c w ih =>
    intro p f
    have hc := h c (List.mem_cons_self ..)
    show (if c = 32 then _ else _) = _
    rw [if_neg (by omega)]
    exact ih (fun c hc => h c (List.mem_cons_of_mem _ hc)) p _
theorem scn_j (h : ∀ c, c ∈ w → ltr c) : ∀ p f, scn T t (w ++ 32 :: cs) p f = if sw T t w f = some (t.2 - t.1) then nI p else scn T t cs (p + 1) (some 0) := by
  induction w with
  | nil => intro p f; show (if 32 = 32 then _ else _) = _; rw [if_pos rfl]; rfl
  | cons c w ih =>
    intro p f
    have hc := h c (List.mem_cons_self ..)
    show (if c = 32 then _ else _) = _
    rw [if_neg (by omega)]
    exact ih (fun c hc => h c (List.mem_cons_of_mem _ hc)) p _
theorem scn_p : ∀ (ws : List (List Nat)) p, ws ≠ [] → (∀ w, w ∈ ws → ∀ c, c ∈ w → ltr c) → scn T t (jnW ws) p (some 0) = plc T t ws p
  | [], _, h, _ => absurd rfl h
  | [w], p, _, h => scn_w (h w (List.mem_cons_self ..)) p _
  | w :: w' :: ws, p, _, h => by
    show scn T t (w ++ 32 :: jnW (w' :: ws)) p (some 0) = _
    rw [scn_j (h w (List.mem_cons_self ..)), scn_p (w' :: ws) (p + 1) (by simp) (fun w hw => h w (List.mem_cons_of_mem _ hw))]
    rfl
theorem tx_ok : ∀ i, i < 12 → txW i ≠ [] ∧ (∀ w, w ∈ txW i → ∀ c, c ∈ w → ltr c) := by decide +kernel
theorem tx_bt : ∀ i, i < 12 → am_bt.getD i [] = (jnW (txW i)).map nI ∧ am_sl.getD i 0 = (jnW (txW i)).length ∧ (∀ c, c ∈ jnW (txW i) → c = 32 ∨ ltr c) := by decide +kernel
theorem S00_i (a k : Nat) : am_i (am_S00 L xs) a k = cond (Nat.blt a 3000000) (am_xf xs (a - 2000000) k) (cond (Nat.blt a 4000000) (nI (am_xl L (a - 3000000))) (cond (Nat.blt a 5000000) ((am_bt.getD (a - 4000000) []).getD k 0) (nI (am_sl.getD (a - 5000000) 0)))) := rfl
theorem FX.tx (h : FX L xs I) (hi : i < 12) (hk : k < (jnW (txW i)).length) : I (4000000 + i) k = nI ((jnW (txW i)).getD k 0) := by
  rw [h (4000000 + i) (by omega), S00_i, show Nat.blt (4000000 + i) 3000000 = false from am_blt_f (by omega), show Nat.blt (4000000 + i) 4000000 = false from am_blt_f (by omega), show Nat.blt (4000000 + i) 5000000 = true from am_blt_t (by omega), show 4000000 + i - 4000000 = i by omega, (tx_bt i hi).1]
  show ((jnW (txW i)).map nI).getD k 0 = _
  simp [List.getD_eq_getElem?_getD, List.getElem?_map, List.getElem?_eq_getElem hk]
theorem FX.tn (h : FX L xs I) (hi : i < 12) : I (4000000 + i + 1000000) 0 = nI (jnW (txW i)).length := by
  rw [h (4000000 + i + 1000000) (by omega), S00_i, show Nat.blt (4000000 + i + 1000000) 3000000 = false from am_blt_f (by omega), show Nat.blt (4000000 + i + 1000000) 4000000 = false from am_blt_f (by omega), show Nat.blt (4000000 + i + 1000000) 5000000 = false from am_blt_f (by omega), show 4000000 + i + 1000000 - 5000000 = i by omega, (tx_bt i hi).2.1]
  rfl
theorem sx_c (hb : b < 256) (hc : ltr c) : (sx b = nI c) = (b = c) := by
  obtain ⟨s1, _, _, _, _, s6⟩ := sx_t b hb
  refine propext ⟨fun h => ?_, fun h => by subst h; exact s6 hc⟩
  have hl : ltr b := by
    rw [h, if_neg (by rw [n_lt (by omega) (by decide)]; omega), if_neg (by rw [n_lt (by decide) (by omega)]; omega)] at s1
    by_cases hl : ltr b
    · exact hl
    · rw [if_neg hl] at s1; exact absurd s1 (by decide)
  rw [s6 hl, n_eq (by omega) (by omega)] at h
  exact h
theorem e30 (hT : okT T n) (hX : TxC I T n) (hL : LxC I T n t) (ht : okK n t) (hb : lyC b = 997) : ∀ (cs : List Nat) (k p : Nat) (f : Option Nat), (∀ c, c ∈ cs → c = 32 ∨ ltr c) → (∀ i, i < cs.length → I b (k + i) = nI (cs.getD i 0)) → I (b + 1000000) 0 = nI (k + cs.length) → k + cs.length < 100 → (∀ i, f = some i → t.1 + i ≤ t.2) → am_X (am_cal d) 30 6 [.ref 199, .ref b, .int (nI p), .int (fI f), .int (nI k), .null] [] (mS I J) = some (some (.int (scn T t cs p f)), mS I J) := by
  have hn := hT.1
  obtain ⟨l2, l3, l4, l5, l6⟩ := hL
  have hd : nI t.2 - nI t.1 = nI (t.2 - t.1) := n_sub ht.1
  have o1 : (1 ≤ 8 ∧ lyC b = 997) = True := eq_true ⟨by decide, hb⟩
  have o0 : (0 ≤ 8 ∧ lyC b = 997) = True := eq_true ⟨by decide, hb⟩
  have fe : ∀ f : Option Nat, (∀ i, f = some i → t.1 + i ≤ t.2) → (fI f = nI (t.2 - t.1)) = (f = some (t.2 - t.1)) := fun f hf => by
    cases f with
    | none => exact propext ⟨fun h => by
        have h1 : ¬ nI (t.2 - t.1) < 0 := nI_pos (by omega)
        rw [← h] at h1
        exact absurd (show fI none < 0 by decide) h1, fun h => absurd h (by simp)⟩
    | some i =>
      have := hf i rfl
      show (nI i = _) = _
      rw [n_eq (by omega) (by omega)]
      exact propext ⟨fun h => by rw [h], fun h => Option.some.inj h⟩
  intro cs
  induction cs with
  | nil =>
    intro k p f hc hI hlen hk hf
    rw [e_30_6]
    simp only [List.length_nil, Nat.add_zero] at hlen
    simp only [o1, hlen, n_lt (show k < 2 ^ 31 by omega) (show k < 2 ^ 31 by omega), Nat.lt_irrefl, lc_199, l3, l4, hd, fe f hf, o_if, scn, bq_s, mS_c, mS_l, mS_r, mS_i, mS_j, mS_pi, mS_pj, lt_st, bq_s, bV_s, bI_s, bJ_s, bA_s, nz_0, nc_0, nz_1, nc_1, nz_2, nc_2, nz_3, nc_3, nz_4, nc_4, nz_5, nc_5, nz_6, nc_6, nz_7, nc_7, nz_8, nc_8, nz_9, nc_9, nz_10, nc_10, nz_11, nc_11, nz_12, nc_12, if_true, if_false, eq_self, true_and, and_true, false_or, or_false, true_or, or_true, false_and, and_false, not_true, not_false_eq_true, ne_eq, ite_self, ite_not, ↓reduceIte, n_101, n_107, n_11]
  | cons c cs ih =>
    intro k p f hc hI hlen hk hf
    have hlen' : I (b + 1000000) 0 = nI (k + cs.length + 1) := by rw [hlen]; simp only [List.length_cons]; congr 1
    simp only [List.length_cons] at hlen hk
    have h0 : I b k = nI c := hI 0 (by simp)
    have hc0 := hc c (List.mem_cons_self ..)
    have hlt : (k < k + cs.length + 1) = True := eq_true (by omega)
    have i0c : (nI k).toNatClampNeg = k := nI_clamp (by omega)
    have i0z : (nI k < 0) = False := n_ge0 (by omega)
    have i0l : (k + cs.length + 1 ≤ k) = False := n_lef (by omega)
    have lc : (nI (k + cs.length + 1)).toNatClampNeg = k + cs.length + 1 := nI_clamp (by omega)
    have step : ∀ (p : Nat) (f : Option Nat), (∀ i, f = some i → t.1 + i ≤ t.2) → am_X (am_cal d) 30 6 [.ref 199, .ref b, .int (nI p), .int (fI f), .int (nI (k + 1)), .null] [] (mS I J) = some (some (.int (scn T t cs p f)), mS I J) := fun p f hf => ih (k + 1) p f (fun c hc' => hc c (List.mem_cons_of_mem _ hc')) (fun i hi => by
      have := hI (i + 1) (by simpa using hi)
      rw [show k + 1 + i = k + (i + 1) by omega, this]
      rfl) (by rw [hlen']; congr 1; omega) (by omega) hf
    rw [e_30_6]
    simp only [o1, o0, hlen', lc, n_lt (show k < 2 ^ 31 by omega) (show k + cs.length + 1 < 2 ^ 31 by omega), hlt, i0c, i0z, i0l, h0, n_eq (show c < 2 ^ 31 by omega) (show 32 < 2 ^ 31 by decide), lc_199, l3, l4, hd, fe f hf, nI_add, bq_s, mS_c, mS_l, mS_r, mS_i, mS_j, mS_pi, mS_pj, lt_st, bq_s, bV_s, bI_s, bJ_s, bA_s, nz_0, nc_0, nz_1, nc_1, nz_2, nc_2, nz_3, nc_3, nz_4, nc_4, nz_5, nc_5, nz_6, nc_6, nz_7, nc_7, nz_8, nc_8, nz_9, nc_9, nz_10, nc_10, nz_11, nc_11, nz_12, nc_12, if_true, if_false, eq_self, true_and, and_true, false_or, or_false, true_or, or_true, false_and, and_false, not_true, not_false_eq_true, ne_eq, ite_self, ite_not, ↓reduceIte, n_101, n_107, n_11]
    show _ = some (some (Value.int (if c = 32 then (if f = some (t.2 - t.1) then nI p else scn T t cs (p + 1) (some 0)) else scn T t cs p (swS T t c f))), mS I J)
    by_cases h32 : c = 32
    · rw [if_pos h32, if_pos h32]
      by_cases hfe : f = some (t.2 - t.1)
      · rw [if_pos hfe, if_pos hfe]
      · rw [if_neg hfe, if_neg hfe]
        exact step (p + 1) (some 0) (fun i hi => by cases hi; exact ht.1)
    · have hl : ltr c := by rcases hc0 with h | h; exact absurd h h32; exact h
      rw [if_neg h32, if_neg h32]
      cases f with
      | none =>
        rw [if_pos (show fI none < 0 by decide)]
        exact step p none (fun i hi => by cases hi)
      | some i =>
        have hi := hf i rfl
        have hadd : nI t.1 + fI (some i) = nI (t.1 + i) := nI_add _ _
        rw [if_neg (show ¬ fI (some i) < 0 from nI_pos (show i < 2 ^ 31 by omega)), hadd]
        simp only [n_lt (show t.1 + i < 2 ^ 31 by omega) (show t.2 < 2 ^ 31 by omega)]
        by_cases h1 : t.1 + i < t.2
        · rw [if_pos h1]
          have hin : t.1 + i < n := by omega
          have hbb := hT.2 _ hin
          have j0c : (nI (t.1 + i)).toNatClampNeg = t.1 + i := nI_clamp (by omega)
          have j0z : (nI (t.1 + i) < 0) = False := n_ge0 (by omega)
          have j0l : (200 ≤ t.1 + i) = False := n_lef (by omega)
          simp only [lc_199, lr_199_1, lc_198, ll_198, j0c, j0z, j0l, hX _ hin, sx_c hbb hl, bq_s, mS_c, mS_l, mS_r, mS_i, mS_j, mS_pi, mS_pj, lt_st, bq_s, bV_s, bI_s, bJ_s, bA_s, nz_0, nc_0, nz_1, nc_1, nz_2, nc_2, nz_3, nc_3, nz_4, nc_4, nz_5, nc_5, nz_6, nc_6, nz_7, nc_7, nz_8, nc_8, nz_9, nc_9, nz_10, nc_10, nz_11, nc_11, nz_12, nc_12, if_true, if_false, eq_self, true_and, and_true, false_or, or_false, true_or, or_true, false_and, and_false, not_true, not_false_eq_true, ne_eq, ite_self, ite_not, ↓reduceIte, n_101, n_107, n_11]
          by_cases h2 : T (t.1 + i) = c
          · rw [if_pos h2]
            have e1 : fI (some i) + nI 1 = fI (some (i + 1)) := nI_add _ _
            have e2 : swS T t c (some i) = some (i + 1) := if_pos ⟨h1, h2⟩
            rw [e1, e2]
            exact step p (some (i + 1)) (fun j hj => by cases hj; omega)
          · rw [if_neg h2]
            have e2 : swS T t c (some i) = none := if_neg (fun h => h2 h.2)
            rw [e2]
            exact step p none (fun j hj => by cases hj)
        · rw [if_neg h1]
          have e2 : swS T t c (some i) = none := if_neg (fun h => h1 h.1)
          rw [e2]
          exact step p none (fun j hj => by cases hj)
theorem tx_len : ∀ i, i < 12 → (jnW (txW i)).length < 100 := by decide +kernel
theorem k30 (hF : FX L xs I) (hT : okT T n) (hX : TxC I T n) (hL : LxC I T n t) (ht : okK n t) (hi : i < 12) : am_cal (d + 1) 30 [.ref 199, .ref (4000000 + i)] (mS I J) = some (some (.int (plc T t (txW i) 0)), mS I J) := by
  obtain ⟨t1, t2⟩ := tx_ok i hi
  rw [c_30 lc_199, ← scn_p (txW i) 0 t1 t2]
  exact e30 hT hX hL ht (lx_txt hi) (jnW (txW i)) 0 0 (some 0) (tx_bt i hi).2.2 (fun j hj => by rw [Nat.zero_add]; exact hF.tx hi hj) (by rw [Nat.zero_add]; exact hF.tn hi) (by rw [Nat.zero_add]; exact tx_len i hi) (fun j hj => by cases hj; exact ht.1)
/-- what a word's standing here says -/
theorem sw_n : sw T t w none = none := by
  induction w with
  | nil => rfl
  | cons c w ih => exact ih
theorem sw_iff : ∀ (w : List Nat) (i m : Nat), sw T t w (some i) = some m ↔ (m = i + w.length ∧ ∀ j, j < w.length → t.1 + i + j < t.2 ∧ T (t.1 + i + j) = w.getD j 0)
  | [], i, m => by
    constructor
    · intro h; exact ⟨(Option.some.inj h).symm, fun j hj => absurd hj (Nat.not_lt_zero j)⟩
    · rintro ⟨h, _⟩; show some i = some m; rw [h]; rfl
  | c :: w, i, m => by
    show sw T t w (if t.1 + i < t.2 ∧ T (t.1 + i) = c then some (i + 1) else none) = some m ↔ _
    by_cases h : t.1 + i < t.2 ∧ T (t.1 + i) = c
    · rw [if_pos h, sw_iff w (i + 1) m]
      constructor
      · rintro ⟨h1, h2⟩
        refine ⟨by simp only [List.length_cons]; omega, fun j hj => ?_⟩
        cases j with
        | zero => exact h
        | succ j =>
          have := h2 j (by simpa using hj)
          rw [show t.1 + (i + 1) + j = t.1 + i + (j + 1) by omega] at this
          exact this
      · rintro ⟨h1, h2⟩
        refine ⟨by simp only [List.length_cons] at h1; omega, fun j hj => ?_⟩
        have := h2 (j + 1) (by simpa using hj)
        rw [show t.1 + (i + 1) + j = t.1 + i + (j + 1) by omega]
        exact this
    · rw [if_neg h, sw_n]
      constructor
      · intro h'; cases h'
      · rintro ⟨_, h2⟩
        exact absurd (h2 0 (by simp)) h
theorem wdW_iff (ht : t.1 ≤ t.2) : wdW T t w ↔ (t.2 - t.1 = w.length ∧ ∀ j, j < w.length → T (t.1 + j) = w.getD j 0) := by
  unfold wdW
  rw [sw_iff]
  constructor
  · rintro ⟨h1, h2⟩
    exact ⟨by omega, fun j hj => (h2 j hj).2⟩
  · rintro ⟨h1, h2⟩
    exact ⟨by omega, fun j hj => ⟨by omega, h2 j hj⟩⟩
/-- where a word of the texts stands, a name stands -/
theorem tx_ne : ∀ i, i < 12 → ∀ w, w ∈ txW i → 2 ≤ w.length ∧ w.length ≤ 6 ∧ ltr (w.getD 0 0) := by decide +kernel
theorem wdW_nm (ht : okK n t) (hi : i < 12) (hw : w ∈ txW i) (h : wdW T t w) : t.1 < n ∧ ltr (T t.1) := by
  obtain ⟨a, b, c⟩ := tx_ne i hi w hw
  rw [wdW_iff ht.1] at h
  have h0 := h.2 0 (by omega)
  have := ht.2.1
  rw [Nat.add_zero] at h0
  exact ⟨by omega, by rw [h0]; exact c⟩
theorem plc_no : ∀ (ws : List (List Nat)) p, (∀ w, w ∈ ws → ¬ wdW T t w) → plc T t ws p = Int32.ofInt (-1)
  | [], _, _ => rfl
  | w :: ws, p, h => by
    show (if wdW T t w then _ else _) = _
    rw [if_neg (h w (List.mem_cons_self ..))]
    exact plc_no ws (p + 1) (fun w hw => h w (List.mem_cons_of_mem _ hw))
theorem nm_iff (hT : okT T n) : (tkW T n t = Int32.ofInt (-2)) = (t.1 < n ∧ ltr (T t.1)) := by
  unfold tkW
  by_cases h1 : t.1 < n
  · rw [if_pos h1]
    by_cases h2 : ltr (T t.1)
    · rw [if_pos h2]; exact propext ⟨fun _ => ⟨h1, h2⟩, fun _ => rfl⟩
    · rw [if_neg h2]
      refine propext ⟨fun h => ?_, fun h => absurd h.2 h2⟩
      by_cases h3 : dgt (T t.1)
      · rw [if_pos h3] at h
        split at h <;> exact absurd h (by decide)
      · rw [if_neg h3] at h
        have h4 := hT.2 _ h1
        have h5 : ¬ nI (T t.1) < 0 := nI_pos (by omega)
        rw [h] at h5
        exact absurd (show Int32.ofInt (-2) < 0 by decide) h5
  · rw [if_neg h1]
    exact propext ⟨fun h => absurd h (by decide), fun h => absurd h.1 h1⟩
end J4s
