/-! ===== what both write of a COND says the same ===== -/
def vl (f : Rw) (x : Nat) : Int32 := if x < 10000 then nI x else f (x - 10000)
def cmpP (f : Rw) (o : PO) : Prop := if o.2.1 = 0 then vl f o.2.2.1 < vl f o.2.2.2 else if o.2.1 = 1 then vl f o.2.2.1 = vl f o.2.2.2 else vl f o.2.2.2 < vl f o.2.2.1
noncomputable def bdec (c : Prop) : Bool := @decide c (Classical.propDecidable _)
def bI (b : Bool) : Int32 := if b then nI 1 else nI 0
def bn (b : Bool) : Nat := if b then 1 else 0
noncomputable def ev1 (f : Rw) (x : PO) (st : List Bool) : List Bool := if x.1 = 0 then bdec (cmpP f x) :: st else if x.1 = 1 then (match st with
  | b :: r => (!b) :: r
  | [] => []) else (match st with
  | b :: a :: r => (if x.1 = 2 then a && b else a || b) :: r
  | r => r)
noncomputable def evB (f : Rw) : List PO → List Bool → List Bool
  | [], st => st
  | x :: l, st => evB f l (ev1 f x st)
def bs : List Bool → Nat
  | [] => 1
  | b :: l => 2 * bs l + bn b
section J12s
variable {I : mI} {J : mJ} {s f : Rw} {d k n q p i c m a b : Nat} {C : Rw} {x : PO} {o : List PO} {st : List Bool}
theorem bs_lt : ∀ (l : List Bool), bs l < 2 ^ (l.length + 1)
  | [] => by show 1 < 2; decide
  | b :: l => by
    have := bs_lt l
    show 2 * bs l + bn b < 2 ^ (l.length + 1 + 1)
    rw [Nat.pow_succ]
    have : bn b ≤ 1 := by cases b <;> decide
    omega
theorem bdec_t {c : Prop} (h : c) : bdec c = true := by
  unfold bdec
  exact @decide_eq_true c (Classical.propDecidable _) h
theorem bdec_f {c : Prop} (h : ¬ c) : bdec c = false := by
  unfold bdec
  exact @decide_eq_false c (Classical.propDecidable _) h
theorem ccp_iff (hg : x.2.1 ≤ 2) (hl : x.2.2.1 < 10006) (hr : x.2.2.2 < 10006) (h0 : x.1 = 0) : ccp (eC x) f ↔ cmpP f x := by
  obtain ⟨x0, g, a, r⟩ := x
  simp only at hg hl hr h0
  subst h0
  have ho : eC (0, g, a, r) = nI ((g * 16384 + a) * 16384 + r) := rfl
  have h1 : eC (0, g, a, r) / nI 16384 = nI (g * 16384 + a) := by
    rw [ho, pk_div (by omega) (by omega) (by omega)]
    exact congrArg nI (by omega)
  have h2 : eC (0, g, a, r) - eC (0, g, a, r) / nI 16384 * nI 16384 = nI r := by
    rw [ho, pk_rem (by omega) (by omega) (by omega)]
    exact congrArg nI (by omega)
  have h3 : eC (0, g, a, r) / nI 16384 / nI 16384 = nI g := by
    rw [h1, pk_div (by omega) (by omega) (by omega)]
    exact congrArg nI (by omega)
  have h4 : eC (0, g, a, r) / nI 16384 - eC (0, g, a, r) / nI 16384 / nI 16384 * nI 16384 = nI a := by
    rw [h1, pk_rem (by omega) (by omega) (by omega)]
    exact congrArg nI (by omega)
  have v : ∀ y, y < 10006 → (if nI 10000 ≤ nI y then f (nI y - nI 10000).toNatClampNeg else nI y) = vl f y := fun y hy => by
    unfold vl
    simp only [n_le (show 10000 < 2 ^ 31 by decide) (show y < 2 ^ 31 by omega)]
    by_cases h : y < 10000
    · rw [if_neg (by omega), if_pos h]
    · rw [if_pos (by omega), if_neg h, n_sub (by omega), nI_clamp (by omega)]
  unfold ccp cmpP
  simp only [h2, h4]
  simp only [h3]
  have e0 : (nI g = nI 0) = (g = 0) := n_eq (by omega) (by decide)
  have e1 : (nI g = nI 1) = (g = 1) := n_eq (by omega) (by decide)
  rw [v a hl, v r hr]
  simp only [e0, e1]
theorem bt1 : ∀ m, m < 1024 → (nI m <<< nI 1) ||| nI 0 = nI (2 * m + 0) ∧ (nI m <<< nI 1) ||| nI 1 = nI (2 * m + 1) ∧ nI (2 * m + 0) ^^^ nI 1 = nI (2 * m + 1) ∧ nI (2 * m + 1) ^^^ nI 1 = nI (2 * m + 0) := by decide +kernel
theorem bt2 : ∀ m, m < 512 → ∀ a, a < 2 → ∀ b, b < 2 → (nI (2 * (2 * m + a) + b) >>> nI 1) &&& (((nI (2 * (2 * m + a) + b) &&& nI 1) - nI 2) ||| (nI (2 * (2 * m + a) + b) &&& nI 1)) = nI (2 * m + a * b) ∧ (nI (2 * (2 * m + a) + b) >>> nI 1) ||| (nI (2 * (2 * m + a) + b) &&& nI 1) = nI (2 * m + (a + b - a * b)) := by decide +kernel
theorem eC_1 (h : x.1 = 1) : eC x = Int32.ofInt (-1) := by unfold eC; rw [if_neg (by omega), if_pos h]
theorem eC_2 (h : x.1 = 2) : eC x = Int32.ofInt (-2) := by unfold eC; rw [if_neg (by omega), if_neg (by omega), if_pos h]
theorem eC_3 (h : x.1 = 3) : eC x = Int32.ofInt (-3) := by unfold eC; rw [if_neg (by omega), if_neg (by omega), if_neg (by omega)]
theorem cst_ev (hC : C k = eC x) (hx : (x.1 = 0 ∧ x.2.1 ≤ 2 ∧ x.2.2.1 < 10006 ∧ x.2.2.2 < 10006 ∧ st.length + 1 ≤ 9) ∨ (x.1 = 1 ∧ 1 ≤ st.length) ∨ ((x.1 = 2 ∨ x.1 = 3) ∧ 2 ≤ st.length)) (hl : st.length ≤ 9) : cst C f k (nI (bs st)) = nI (bs (ev1 f x st)) ∧ (ev1 f x st).length = if x.1 = 0 then st.length + 1 else if x.1 = 1 then st.length else st.length - 1 := by
  have hb := bs_lt st
  have hp : 2 ^ (st.length + 1) ≤ 2 ^ 10 := Nat.pow_le_pow_right (by decide) (by omega)
  have h10 : (2 : Nat) ^ 10 = 1024 := by decide
  have hbs : bs st < 1024 := by omega
  unfold cst ev1
  rw [hC]
  rcases hx with ⟨h0, hg, h1, h2, h3⟩ | ⟨h0, h1⟩ | ⟨h0, h1⟩
  · have hpos : ¬ eC x < 0 := by
      unfold eC
      rw [if_pos h0]
      exact nI_pos (by omega)
    rw [if_neg hpos, if_pos h0, if_pos h0, b2_iff (ccp_iff hg h1 h2 h0)]
    refine ⟨?_, rfl⟩
    by_cases hc : cmpP f x
    · rw [b2_t hc, bdec_t hc]; exact (bt1 _ hbs).2.1
    · rw [b2_f hc, bdec_f hc]; exact (bt1 _ hbs).1
  · rw [eC_1 h0, if_pos (by decide), if_pos rfl, if_neg (by omega), if_pos h0, if_neg (by omega), if_pos h0]
    cases st with
    | nil => exact absurd h1 (by simp)
    | cons b r =>
      have hr : bs r < 1024 := by have : bs (b :: r) = 2 * bs r + bn b := rfl; omega
      refine ⟨?_, rfl⟩
      cases b
      · exact (bt1 _ hr).2.2.1
      · exact (bt1 _ hr).2.2.2
  · cases st with
    | nil => exact absurd h1 (by simp)
    | cons b r =>
      cases r with
      | nil => exact absurd h1 (by simp)
      | cons a r =>
        have hr : bs r < 512 := by
          have e1 : bs (b :: a :: r) = 2 * (2 * bs r + bn a) + bn b := rfl
          omega
        have hh := bt2 _ hr (bn a) (by cases a <;> decide) (bn b) (by cases b <;> decide)
        have e1 : bs (b :: a :: r) = 2 * (2 * bs r + bn a) + bn b := rfl
        rcases h0 with h0 | h0
        · rw [eC_2 h0, if_pos (by decide), if_neg (by decide), if_pos rfl, if_neg (by omega), if_neg (by omega), if_neg (by omega), if_neg (by omega), e1]
          refine ⟨?_, rfl⟩
          show _ = nI (2 * bs r + bn (if x.1 = 2 then a && b else a || b))
          rw [if_pos h0, hh.1]
          cases a <;> cases b <;> rfl
        · rw [eC_3 h0, if_pos (by decide), if_neg (by decide), if_neg (by decide), if_neg (by omega), if_neg (by omega), if_neg (by omega), if_neg (by omega), e1]
          refine ⟨?_, rfl⟩
          show _ = nI (2 * bs r + bn (if x.1 = 2 then a && b else a || b))
          rw [if_neg (by omega), hh.2]
          cases a <;> cases b <;> rfl
theorem dpR_le : ∀ (l : List PO) (d b f : Nat), d ≤ b → dpR l d b f → f ≤ b
  | [], d, b, f, h, h1 => by have e : d = f := h1; omega
  | x :: l, d, b, f, h, h1 => by
    rcases h1 with ⟨_, _, _, _, g4, h'⟩ | ⟨_, _, h'⟩ | ⟨_, _, h'⟩
    · exact dpR_le l _ _ _ g4 h'
    · exact dpR_le l _ _ _ h h'
    · exact dpR_le l _ _ _ (by omega) h'
theorem dpR_x {x : PO} {l : List PO} {d f : Nat} (h : dpR (x :: l) d 9 f) : ((x.1 = 0 ∧ x.2.1 ≤ 2 ∧ x.2.2.1 < 10006 ∧ x.2.2.2 < 10006 ∧ d + 1 ≤ 9) ∨ (x.1 = 1 ∧ 1 ≤ d) ∨ ((x.1 = 2 ∨ x.1 = 3) ∧ 2 ≤ d)) ∧ dpR l (if x.1 = 0 then d + 1 else if x.1 = 1 then d else d - 1) 9 f := by
  rcases h with ⟨h0, g1, g2, g3, g4, h'⟩ | ⟨h0, g1, h'⟩ | ⟨h0, g1, h'⟩
  · exact ⟨Or.inl ⟨h0, g1, g2, g3, g4⟩, by rw [if_pos h0]; exact h'⟩
  · exact ⟨Or.inr (Or.inl ⟨h0, g1⟩), by rw [if_neg (by omega), if_pos h0]; exact h'⟩
  · exact ⟨Or.inr (Or.inr ⟨h0, g1⟩), by rw [if_neg (by omega), if_neg (by omega)]; exact h'⟩
theorem gD_s {α : Type} {x y : α} {l : List α} : (y :: l).getD (i + 1) x = l.getD i x := rfl
theorem crun_ev : ∀ (l : List PO) (k : Nat) (st : List Bool) (fin : Nat), (∀ j, j < l.length → C (k + j) = eC (l.getD j (0, 0, 0, 0))) → st.length ≤ 9 → dpR l st.length 9 fin → crun C f l.length k (nI (bs st)) = nI (bs (evB f l st)) ∧ (evB f l st).length = fin
  | [], k, st, fin, _, _, h => ⟨rfl, h⟩
  | x :: l, k, st, fin, hC, hl, h => by
    obtain ⟨h1, h2⟩ := dpR_x h
    have hc0 : C k = eC x := hC 0 (by simp)
    obtain ⟨e1, e2⟩ := cst_ev (f := f) hc0 h1 hl
    show crun C f l.length (k + 1) (cst C f k (nI (bs st))) = _ ∧ (evB f l (ev1 f x st)).length = fin
    rw [e1]
    rw [← e2] at h2
    refine crun_ev l (k + 1) (ev1 f x st) fin (fun j hj => ?_) ?_ h2
    · have := hC (j + 1) (by simpa using hj)
      rw [show k + 1 + j = k + (j + 1) by omega, this]
      rfl
    · rw [e2]
      rcases h1 with ⟨h0, _, _, _, h3⟩ | ⟨h0, _⟩ | ⟨h0, _⟩
      · rw [if_pos h0]; exact h3
      · rw [if_neg (by omega), if_pos h0]; exact hl
      · rw [if_neg (by omega), if_neg (by omega)]; omega
/-! the model's pile -/
theorem mst_v {y : Nat} {l : List Int32} (hs : s (346 + k) = nI y) (hy : y < 10006) : mst s f k l = vl f y :: l := by
  unfold mst vl
  rw [hs, if_pos (by rw [n_lt (by omega) (by decide)]; omega)]
  by_cases h : y < 10000
  · rw [if_pos (by rw [n_lt (by omega) (by decide)]; exact h), if_pos h]
  · rw [if_neg (by rw [n_lt (by omega) (by decide)]; exact h), if_neg h, n_sub (by omega), nI_clamp (by omega)]
theorem mst_s {g : Nat} {l : List Int32} {a b : Int32} (hs : s (346 + k) = nI (10080 + g)) (hg : g ≤ 2) : mst s f k (b :: a :: l) = (if g = 0 then (if a < b then nI 1 else nI 0) else if g = 1 then (if a = b then nI 1 else nI 0) else (if b < a then nI 1 else nI 0)) :: l := by
  unfold mst
  rw [hs]
  rcases (show g = 0 ∨ g = 1 ∨ g = 2 by omega) with rfl | rfl | rfl
  · rw [if_neg (by decide), if_neg (by decide)]
    show bo2 _ a b :: l = _
    unfold bo2
    rw [if_neg (by decide), if_neg (by decide), if_pos (by decide), if_pos rfl]
  · rw [if_neg (by decide), if_neg (by decide)]
    show bo2 _ a b :: l = _
    unfold bo2
    rw [if_neg (by decide), if_neg (by decide), if_neg (by decide), if_pos (by decide), if_neg (show ¬ (1 : Nat) = 0 by decide), if_pos rfl]
  · rw [if_neg (by decide), if_neg (by decide)]
    show bo2 _ a b :: l = _
    unfold bo2
    rw [if_neg (by decide), if_neg (by decide), if_neg (by decide), if_neg (by decide), if_neg (show ¬ (2 : Nat) = 0 by decide), if_neg (show ¬ (2 : Nat) = 1 by decide)]
theorem bI_and (a b : Bool) : bI a &&& bI b = bI (a && b) := by cases a <;> cases b <;> decide
theorem bI_or (a b : Bool) : bI a ||| bI b = bI (a || b) := by cases a <;> cases b <;> decide
theorem bI_not (a : Bool) : nI 1 - bI a = bI (!a) := by cases a <;> decide
theorem mrun_ev : ∀ (l : List PO) (k n : Nat) (st : List Bool) (fin : Nat), (∀ j, j < (eMs l).length → s (346 + (k + j)) = (eMs l).getD j 0) → dpR l st.length 9 fin → mrun s f ((eMs l).length + n) k (st.map bI) = mrun s f n (k + (eMs l).length) ((evB f l st).map bI)
  | [], k, n, st, fin, _, _ => by
    show mrun s f (0 + n) k _ = mrun s f n (k + 0) _
    rw [Nat.zero_add]; rfl
  | x :: l, k, n, st, fin, hS, h => by
    obtain ⟨h1, h2⟩ := dpR_x h
    show mrun s f ((eM x ++ eMs l).length + n) k (st.map bI) = mrun s f n (k + (eM x ++ eMs l).length) ((evB f l (ev1 f x st)).map bI)
    have hS' : ∀ j, j < (eM x ++ eMs l).length → s (346 + (k + j)) = (eM x ++ eMs l).getD j 0 := hS
    rw [List.length_append] at hS' ⊢
    have rest : ∀ q, (eM x).length = q → ∀ j, j < (eMs l).length → s (346 + (k + q + j)) = (eMs l).getD j 0 := fun q hq j hj => by
      have := hS' (q + j) (by omega)
      rw [show k + (q + j) = k + q + j by omega] at this
      rw [this, List.getD_eq_getElem?_getD, List.getElem?_append_right (by omega), hq, Nat.add_sub_cancel_left, ← List.getD_eq_getElem?_getD]
    have len : (ev1 f x st).length = if x.1 = 0 then st.length + 1 else if x.1 = 1 then st.length else st.length - 1 := by
      unfold ev1
      rcases h1 with ⟨h0, _, _, _, h3⟩ | ⟨h0, h3⟩ | ⟨h0, h3⟩
      · rw [if_pos h0, if_pos h0]; rfl
      · rw [if_neg (by omega), if_pos h0, if_neg (by omega), if_pos h0]
        cases st with
        | nil => rfl
        | cons b r => rfl
      · rw [if_neg (by omega), if_neg (by omega), if_neg (by omega), if_neg (by omega)]
        cases st with
        | nil => rfl
        | cons b r =>
          cases r with
          | nil => exact absurd h3 (by simp)
          | cons a r => rfl
    rw [← len] at h2
    rcases h1 with ⟨h0, hg, hl, hr, h3⟩ | ⟨h0, h3⟩ | ⟨h0, h3⟩
    · have e : eM x = [nI x.2.2.1, nI x.2.2.2, nI (10080 + x.2.1)] := if_pos h0
      have el : (eM x).length = 3 := by rw [e]; rfl
      have s0 : s (346 + k) = nI x.2.2.1 := by have := hS' 0 (by omega); rw [e] at this; exact this
      have s1 : s (346 + (k + 1)) = nI x.2.2.2 := by have := hS' 1 (by omega); rw [e] at this; exact this
      have s2 : s (346 + (k + 2)) = nI (10080 + x.2.1) := by have := hS' 2 (by omega); rw [e] at this; exact this
      rw [el, show 3 + (eMs l).length + n = ((eMs l).length + n) + 1 + 1 + 1 by omega]
      show mrun s f ((eMs l).length + n) (k + 1 + 1 + 1) (mst s f (k + 1 + 1) (mst s f (k + 1) (mst s f k (st.map bI)))) = _
      rw [mst_v s0 hl, mst_v s1 hr, mst_s s2 hg]
      have ev : (if x.2.1 = 0 then (if vl f x.2.2.1 < vl f x.2.2.2 then nI 1 else nI 0) else if x.2.1 = 1 then (if vl f x.2.2.1 = vl f x.2.2.2 then nI 1 else nI 0) else (if vl f x.2.2.2 < vl f x.2.2.1 then nI 1 else nI 0)) = bI (bdec (cmpP f x)) := by
        by_cases hc : cmpP f x
        · rw [bdec_t hc]
          unfold cmpP at hc
          by_cases g0 : x.2.1 = 0
          · rw [if_pos g0] at hc ⊢; rw [if_pos hc]; rfl
          · rw [if_neg g0] at hc ⊢
            by_cases g1 : x.2.1 = 1
            · rw [if_pos g1] at hc ⊢; rw [if_pos hc]; rfl
            · rw [if_neg g1] at hc ⊢; rw [if_pos hc]; rfl
        · rw [bdec_f hc]
          unfold cmpP at hc
          by_cases g0 : x.2.1 = 0
          · rw [if_pos g0] at hc ⊢; rw [if_neg hc]; rfl
          · rw [if_neg g0] at hc ⊢
            by_cases g1 : x.2.1 = 1
            · rw [if_pos g1] at hc ⊢; rw [if_neg hc]; rfl
            · rw [if_neg g1] at hc ⊢; rw [if_neg hc]; rfl
      have es : ev1 f x st = bdec (cmpP f x) :: st := if_pos h0
      rw [ev, show bI (bdec (cmpP f x)) :: st.map bI = (ev1 f x st).map bI by rw [es]; rfl]
      have := mrun_ev l (k + 3) n (ev1 f x st) fin (rest 3 el) h2
      rw [show k + (3 + (eMs l).length) = k + 3 + (eMs l).length by omega]
      exact this
    · have e : eM x = [nI 10010] := by unfold eM; rw [if_neg (by omega), if_pos h0]
      have el : (eM x).length = 1 := by rw [e]; rfl
      have s0 : s (346 + k) = nI 10010 := by have := hS' 0 (by omega); rw [e] at this; exact this
      rw [el, show 1 + (eMs l).length + n = ((eMs l).length + n) + 1 by omega]
      show mrun s f ((eMs l).length + n) (k + 1) (mst s f k (st.map bI)) = _
      have em : mst s f k (st.map bI) = (ev1 f x st).map bI := by
        unfold mst ev1
        rw [s0, if_neg (by decide), if_pos rfl, if_neg (by omega), if_pos h0]
        cases st with
        | nil => rfl
        | cons b r =>
          show (nI 1 - bI b) :: r.map bI = bI (!b) :: r.map bI
          rw [bI_not]
      rw [em]
      have := mrun_ev l (k + 1) n (ev1 f x st) fin (rest 1 el) h2
      rw [show k + (1 + (eMs l).length) = k + 1 + (eMs l).length by omega]
      exact this
    · have e : eM x = [if x.1 = 2 then nI 10011 else nI 10012] := by
        unfold eM
        rw [if_neg (by omega), if_neg (by omega)]
        split <;> rfl
      have el : (eM x).length = 1 := by rw [e]; rfl
      have s0 : s (346 + k) = if x.1 = 2 then nI 10011 else nI 10012 := by have := hS' 0 (by omega); rw [e] at this; exact this
      rw [el, show 1 + (eMs l).length + n = ((eMs l).length + n) + 1 by omega]
      show mrun s f ((eMs l).length + n) (k + 1) (mst s f k (st.map bI)) = _
      have em : mst s f k (st.map bI) = (ev1 f x st).map bI := by
        cases st with
        | nil => exact absurd h3 (by simp)
        | cons b r =>
          cases r with
          | nil => exact absurd h3 (by simp)
          | cons a r =>
            have e1 : ev1 f x (b :: a :: r) = (if x.1 = 2 then a && b else a || b) :: r := by
              unfold ev1
              rw [if_neg (by omega), if_neg (by omega)]
            rw [e1]
            unfold mst
            rw [s0]
            by_cases h2' : x.1 = 2
            · rw [if_pos h2', if_neg (by decide), if_neg (by decide)]
              show bo2 _ (bI a) (bI b) :: r.map bI = bI (if x.1 = 2 then a && b else a || b) :: r.map bI
              unfold bo2
              rw [if_pos rfl, if_pos h2', bI_and]
            · rw [if_neg h2', if_neg (by decide), if_neg (by decide)]
              show bo2 _ (bI a) (bI b) :: r.map bI = bI (if x.1 = 2 then a && b else a || b) :: r.map bI
              unfold bo2
              rw [if_neg (by decide), if_pos rfl, if_neg h2', bI_or]
      rw [em]
      have := mrun_ev l (k + 1) n (ev1 f x st) fin (rest 1 el) h2
      rw [show k + (1 + (eMs l).length) = k + 1 + (eMs l).length by omega]
      exact this
theorem wfk_ev : ∀ (l : List PO) (k n d fin : Nat), (∀ j, j < (eMs l).length → s (346 + (k + j)) = (eMs l).getD j 0) → dpR l d 9 fin → d ≤ 9 → wfk s n (k + (eMs l).length) fin → wfk s ((eMs l).length + n) k d
  | [], k, n, d, fin, _, h, _, hn => by
    have e : d = fin := h
    subst e
    show wfk s (0 + n) k d
    rw [Nat.zero_add]; exact hn
  | x :: l, k, n, d, fin, hS, h, hd, hn => by
    obtain ⟨h1, h2⟩ := dpR_x h
    have hn' : wfk s n (k + (eM x ++ eMs l).length) fin := hn
    show wfk s ((eM x ++ eMs l).length + n) k d
    have hS' : ∀ j, j < (eM x ++ eMs l).length → s (346 + (k + j)) = (eM x ++ eMs l).getD j 0 := hS
    rw [List.length_append] at hS' hn' ⊢
    have rest : ∀ q, (eM x).length = q → ∀ j, j < (eMs l).length → s (346 + (k + q + j)) = (eMs l).getD j 0 := fun q hq j hj => by
      have := hS' (q + j) (by omega)
      rw [show k + (q + j) = k + q + j by omega] at this
      rw [this, List.getD_eq_getElem?_getD, List.getElem?_append_right (by omega), hq, Nat.add_sub_cancel_left, ← List.getD_eq_getElem?_getD]
    have val : ∀ y, y < 10006 → nI y < nI 10010 ∧ (nI y < nI 10000 ∨ ∃ j, j < 6 ∧ nI y = nI (10000 + j)) := fun y hy => ⟨by rw [n_lt (by omega) (by decide)]; omega, by
      by_cases h : y < 10000
      · exact Or.inl (by rw [n_lt (by omega) (by decide)]; exact h)
      · exact Or.inr ⟨y - 10000, by omega, by rw [show 10000 + (y - 10000) = y by omega]⟩⟩
    rcases h1 with ⟨h0, hg, hl, hr, h3⟩ | ⟨h0, h3⟩ | ⟨h0, h3⟩
    · have e : eM x = [nI x.2.2.1, nI x.2.2.2, nI (10080 + x.2.1)] := if_pos h0
      have el : (eM x).length = 3 := by rw [e]; rfl
      have s0 : s (346 + k) = nI x.2.2.1 := by have := hS' 0 (by omega); rw [e] at this; exact this
      have s1 : s (346 + (k + 1)) = nI x.2.2.2 := by have := hS' 1 (by omega); rw [e] at this; exact this
      have s2 : s (346 + (k + 1 + 1)) = nI (10080 + x.2.1) := by have := hS' 2 (by omega); rw [e] at this; exact this
      rw [if_pos h0] at h2
      rw [el] at hn' ⊢
      rw [show 3 + (eMs l).length + n = ((eMs l).length + n) + 1 + 1 + 1 by omega]
      have ih := wfk_ev l (k + 3) n (d + 1) fin (rest 3 el) h2 h3 (by rw [show k + 3 + (eMs l).length = k + (3 + (eMs l).length) by omega]; exact hn')
      refine Or.inl ⟨by rw [s0]; exact (val _ hl).1, by rw [s0]; exact (val _ hl).2, by omega, Or.inl ⟨by rw [s1]; exact (val _ hr).1, by rw [s1]; exact (val _ hr).2, by omega, Or.inr (Or.inr ⟨?_, by omega, by omega, ih⟩)⟩⟩
      rw [s2]
      rcases (show x.2.1 = 0 ∨ x.2.1 = 1 ∨ x.2.1 = 2 by omega) with h | h | h
      · rw [h]; exact Or.inr (Or.inr (Or.inl rfl))
      · rw [h]; exact Or.inr (Or.inr (Or.inr (Or.inl rfl)))
      · rw [h]; exact Or.inr (Or.inr (Or.inr (Or.inr rfl)))
    · have e : eM x = [nI 10010] := by unfold eM; rw [if_neg (by omega), if_pos h0]
      have el : (eM x).length = 1 := by rw [e]; rfl
      have s0 : s (346 + k) = nI 10010 := by have := hS' 0 (by omega); rw [e] at this; exact this
      rw [if_neg (by omega), if_pos h0] at h2
      rw [el] at hn' ⊢
      rw [show 1 + (eMs l).length + n = ((eMs l).length + n) + 1 by omega]
      have ih := wfk_ev l (k + 1) n d fin (rest 1 el) h2 hd (by rw [show k + 1 + (eMs l).length = k + (1 + (eMs l).length) by omega]; exact hn')
      exact Or.inr (Or.inl ⟨s0, h3, ih⟩)
    · have e : eM x = [if x.1 = 2 then nI 10011 else nI 10012] := by
        unfold eM
        rw [if_neg (by omega), if_neg (by omega)]
        split <;> rfl
      have el : (eM x).length = 1 := by rw [e]; rfl
      have s0 : s (346 + k) = if x.1 = 2 then nI 10011 else nI 10012 := by have := hS' 0 (by omega); rw [e] at this; exact this
      rw [if_neg (by omega), if_neg (by omega)] at h2
      rw [el] at hn' ⊢
      rw [show 1 + (eMs l).length + n = ((eMs l).length + n) + 1 by omega]
      have ih := wfk_ev l (k + 1) n (d - 1) fin (rest 1 el) h2 (by omega) (by rw [show k + 1 + (eMs l).length = k + (1 + (eMs l).length) by omega]; exact hn')
      refine Or.inr (Or.inr ⟨?_, h3, by omega, ih⟩)
      rw [s0]
      by_cases h2' : x.1 = 2
      · rw [if_pos h2']; exact Or.inl rfl
      · rw [if_neg h2']; exact Or.inr (Or.inl rfl)
end J12s
