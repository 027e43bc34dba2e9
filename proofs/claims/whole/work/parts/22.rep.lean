/-! ===== the model's row of ints, and a world of the class that says the same ===== -/
abbrev Rw : Type := Nat → Int32
def m9 : Int32 := Int32.ofInt (-9)
def nP (s : Rw) : Nat := (s 1).toNatClampNeg
def nE (s : Rw) : Nat := (s 2).toNatClampNeg
def nC (s : Rw) : Nat := (s 3).toNatClampNeg
def nD (s : Rw) : Nat := (s 4).toNatClampNeg
def nW (s : Rw) : Nat := (s 5).toNatClampNeg
def nL (s : Rw) : Nat := (s 6).toNatClampNeg
def pF (s : Rw) (p f : Nat) : Int32 := s (10 + 10 * p + f)
def eF (s : Rw) (e f : Nat) : Int32 := s (130 + 3 * e + f)
def cF (s : Rw) (c f : Nat) : Int32 := s (184 + 5 * c + f)
def dF (s : Rw) (d f : Nat) : Int32 := s (244 + 2 * d + f)
def wF (s : Rw) (k f : Nat) : Int32 := s (264 + 4 * k + f)
def lF (s : Rw) (c f : Nat) : Int32 := s (296 + 5 * c + f)
abbrev isP (s : Rw) (x : Int32) : Prop := ¬ x < 0 ∧ x < s 1
abbrev isCl (s : Rw) (x : Int32) : Prop := ¬ x < 0 ∧ x < s 3
abbrev isDd (s : Rw) (x : Int32) : Prop := ¬ x < 0 ∧ x < s 4
/-- told as a copy -/
abbrev isCp (s : Rw) (p : Nat) : Prop := pF s p 1 = nI 2 ∨ pF s p 1 = nI 3 ∨ pF s p 1 = nI 5
abbrev isAw (s : Rw) (p : Nat) : Prop := ¬ pF s p 0 < nI 1 ∧ ¬ nI 4 < pF s p 0
/-- by this event someone ends -/
def endAt (s : Rw) (q e : Nat) : Prop := (eF s e 0 = nI 4 ∧ eF s e 1 = nI q) ∨ (eF s e 0 = nI 3 ∧ ∃ p, p < nP s ∧ eF s e 1 = nI p ∧ (pF s p 2 = nI q ∨ pF s p 3 = nI q))
/-! the law: what is told by facts -/
def fct (a b c d e g : Int32) : Rw := fun k => match k with
  | 0 => a
  | 1 => b
  | 2 => c
  | 3 => d
  | 4 => e
  | _ => g
def bo2 (v a b : Int32) : Int32 := if v = nI 10011 then a &&& b else if v = nI 10012 then a ||| b else if v = nI 10080 then (if a < b then nI 1 else nI 0) else if v = nI 10081 then (if a = b then nI 1 else nI 0) else (if b < a then nI 1 else nI 0)
/-- one int of a clause's code, over a pile -/
def mst (s f : Rw) (k : Nat) (l : List Int32) : List Int32 :=
  if s (346 + k) < nI 10010 then (if s (346 + k) < nI 10000 then s (346 + k) else f (s (346 + k) - nI 10000).toNatClampNeg) :: l
  else if s (346 + k) = nI 10010 then (match l with | a :: l => (nI 1 - a) :: l | [] => [])
  else (match l with | b :: a :: l => bo2 (s (346 + k)) a b :: l | _ => [])
def mrun (s f : Rw) : Nat → Nat → List Int32 → List Int32
  | 0, _, l => l
  | n + 1, k, l => mrun s f n (k + 1) (mst s f k l)
def hld (s : Rw) (c : Nat) (f : Rw) : Prop := lF s c 2 = nI 0 ∨ (mrun s f ((lF s c 4).toNatClampNeg - (lF s c 3).toNatClampNeg) (lF s c 3).toNatClampNeg []).head? = some (nI 1)
/-- the latest clause of a key that holds tells the value -/
noncomputable def lawU (s : Rw) (key : Int32) (f : Rw) : Nat → Int32
  | 0 => nI 0
  | c + 1 => @ite _ (lF s c 0 = key ∧ hld s c f) (Classical.propDecidable _) (lF s c 1) (lawU s key f c)
noncomputable def lawV (s : Rw) (key : Int32) (f : Rw) : Int32 := lawU s key f (nL s)
/-- on the event of a copy -/
noncomputable def onE (s : Rw) (key : Int32) (e p : Nat) (am hd : Int32) : Int32 := lawV s key (fct (eF s e 2) (nI p) (pF s p 4 - pF s p 5) (pF s p 1) am hd)
/-- the event that brought one -/
def byE (s : Rw) (p : Nat) : Nat := (pF s p 9).toNatClampNeg
def isVd (s : Rw) (p : Nat) : Prop := isCp s p ∧ pF s p 8 = nI 0 ∧ onE s (nI 5) (byE s p) p (nI 0) (nI 0) = nI 1
def isRs (s : Rw) (p : Nat) : Prop := pF s p 1 = nI 5 ∧ ¬ onE s (nI 6) (byE s p) p (nI 0) (nI 0) = nI 1
noncomputable def b2 (c : Prop) : Int32 := @ite _ c (Classical.propDecidable _) (nI 1) (nI 0)
theorem b2_t {c : Prop} (h : c) : b2 c = nI 1 := by unfold b2; rw [if_pos h]
theorem b2_f {c : Prop} (h : ¬ c) : b2 c = nI 0 := by unfold b2; rw [if_neg h]
/-! what always holds of the row -/
def wfP (s : Rw) (p : Nat) : Prop :=
  ((pF s p 1 = nI 1 ∧ pF s p 2 = m9 ∧ pF s p 3 = m9 ∧ eF s (byE s p) 0 = nI 0) ∨
    (isCp s p ∧ (∃ q, q < p ∧ pF s p 2 = nI q ∧ byE s q < byE s p ∧ (pF s q 1 = nI 5 → ∃ e, e < byE s p ∧ eF s e 0 = nI 2 ∧ eF s e 1 = nI q)) ∧ pF s p 3 = m9 ∧ (∃ m, m ≤ 999 ∧ pF s p 5 = nI m) ∧ (∃ m, 1 ≤ m ∧ m ≤ 3 ∧ pF s p 6 = nI m) ∧ eF s (byE s p) 0 = nI 1) ∨
    (pF s p 1 = nI 4 ∧ (∃ q r, q < p ∧ r < p ∧ q ≠ r ∧ pF s p 2 = nI q ∧ pF s p 3 = nI r ∧ byE s q < byE s p ∧ byE s r < byE s p) ∧ eF s (byE s p) 0 = nI 3)) ∧
  (pF s p 0 = nI 6 ∨ (pF s p 0 = pF s p 1 ∧ ¬ pF s p 1 = nI 5) ∨ (pF s p 1 = nI 5 ∧ pF s p 0 = nI 5) ∨ (pF s p 1 = nI 5 ∧ pF s p 0 = nI 2)) ∧
  ((pF s p 7 = m9) ∨ (pF s p 0 = nI 6 ∧ ∃ j, p < j ∧ j < nP s ∧ pF s p 7 = nI j)) ∧
  (∃ c, c ≤ 999 ∧ pF s p 4 = nI c) ∧ (pF s p 8 = nI 0 ∨ pF s p 8 = nI 1) ∧
  (pF s p 9 = nI (byE s p) ∧ byE s p < nE s ∧ eF s (byE s p) 1 = nI p ∧ eF s (byE s p) 2 = pF s p 4) ∧
  (pF s p 0 = nI 6 ↔ ∃ e, e < nE s ∧ endAt s p e) ∧
  (pF s p 1 = nI 5 → (pF s p 0 = nI 5 ∧ ∀ e, e < nE s → ¬ (eF s e 0 = nI 2 ∧ eF s e 1 = nI p)) ∨ (¬ pF s p 0 = nI 5 ∧ (pF s p 0 = nI 2 → ∃ e, e < nE s ∧ eF s e 0 = nI 2 ∧ eF s e 1 = nI p)))
/-- the pile is deep enough throughout -/
def wfk (s : Rw) : Nat → Nat → Nat → Prop
  | 0, _, d => d = 1
  | n + 1, k, d => (s (346 + k) < nI 10010 ∧ (s (346 + k) < nI 10000 ∨ ∃ j, j < 6 ∧ s (346 + k) = nI (10000 + j)) ∧ d < 200 ∧ wfk s n (k + 1) (d + 1)) ∨
    (s (346 + k) = nI 10010 ∧ 1 ≤ d ∧ wfk s n (k + 1) d) ∨
    ((s (346 + k) = nI 10011 ∨ s (346 + k) = nI 10012 ∨ s (346 + k) = nI 10080 ∨ s (346 + k) = nI 10081 ∨ s (346 + k) = nI 10082) ∧ 2 ≤ d ∧ d ≤ 200 ∧ wfk s n (k + 1) (d - 1))
def wfL (s : Rw) (c : Nat) : Prop :=
  (∃ a b, a ≤ b ∧ b ≤ 200 ∧ lF s c 3 = nI a ∧ lF s c 4 = nI b ∧ ((lF s c 2 = nI 0 ∧ a = b) ∨ (lF s c 2 = nI 1 ∧ wfk s (b - a) a 0))) ∧
  (∃ k v, k ≤ 6 ∧ v ≤ 3 ∧ lF s c 0 = nI k ∧ lF s c 1 = nI v ∧ (k = 2 ∨ k = 3 → v ≤ 2) ∧ (k = 6 → v ≤ 1))
def wfE (s : Rw) (e : Nat) : Prop :=
  (∃ p, p < nP s ∧ eF s e 1 = nI p ∧ byE s p ≤ e ∧
    ((eF s e 0 = nI 0 ∧ byE s p = e) ∨ (eF s e 0 = nI 1 ∧ byE s p = e) ∨ (eF s e 0 = nI 2 ∧ byE s p < e ∧ pF s p 1 = nI 5) ∨ (eF s e 0 = nI 3 ∧ byE s p = e ∧ pF s p 1 = nI 4) ∨ (eF s e 0 = nI 4 ∧ byE s p < e))) ∧
  (∃ d, d ≤ 999 ∧ eF s e 2 = nI d)
def WF (s : Rw) : Prop :=
  ((∃ d, d ≤ 999 ∧ s 0 = nI d) ∧ (nP s ≤ 12 ∧ s 1 = nI (nP s)) ∧ (nE s ≤ 18 ∧ s 2 = nI (nE s)) ∧ (nC s ≤ 12 ∧ s 3 = nI (nC s)) ∧ (nD s ≤ 10 ∧ s 4 = nI (nD s)) ∧ (nW s ≤ 8 ∧ s 5 = nI (nW s)) ∧ (nL s ≤ 10 ∧ s 6 = nI (nL s))) ∧
  (∀ p, p < nP s → wfP s p) ∧
  (∀ e, e < nE s → wfE s e) ∧
  (∀ q e e', q < nP s → e < nE s → e' < nE s → endAt s q e → (endAt s q e' → e = e') ∧ (eF s e' 1 = nI q → e' ≤ e)) ∧
  (∀ e e' p, e < nE s → e' < nE s → eF s e 0 = nI 2 → eF s e' 0 = nI 2 → eF s e 1 = nI p → eF s e' 1 = nI p → e = e') ∧
  (∀ c, c < nC s → (cF s c 0 = nI 0 ∨ cF s c 0 = nI 1) ∧ (∃ v, 1 ≤ v ∧ v ≤ 9999 ∧ cF s c 2 = nI v) ∧ (∃ d, d ≤ 999 ∧ cF s c 3 = nI d) ∧ (∃ p e, p < nP s ∧ e ≤ nE s ∧ cF s c 1 = nI p ∧ cF s c 4 = nI e ∧ byE s p < e ∧ (pF s p 1 = nI 5 → ∃ k, k < e ∧ eF s k 0 = nI 2 ∧ eF s k 1 = nI p))) ∧
  (∀ d, d < nD s → (∃ p, p < nP s ∧ dF s d 0 = nI p) ∧ (∃ y, y ≤ 999 ∧ dF s d 1 = nI y)) ∧
  (∀ k, k < nW s → (∃ p, p < nP s ∧ wF s k 0 = nI p) ∧ (∃ p, p < nP s ∧ wF s k 1 = nI p) ∧ (∃ d, d ≤ 999 ∧ wF s k 2 = nI d) ∧ (∃ e, e ≤ nE s ∧ wF s k 3 = nI e)) ∧
  (∀ c, c < nL s → wfL s c)
/-! the class's law -/
def ccp (op : Int32) (f : Rw) : Prop :=
  let l := op / nI 16384 - op / nI 16384 / nI 16384 * nI 16384
  let r := op - op / nI 16384 * nI 16384
  let l2 := if nI 10000 ≤ l then f (l - nI 10000).toNatClampNeg else l
  let r2 := if nI 10000 ≤ r then f (r - nI 10000).toNatClampNeg else r
  if op / nI 16384 / nI 16384 = nI 0 then l2 < r2 else if op / nI 16384 / nI 16384 = nI 1 then l2 = r2 else r2 < l2
noncomputable def cst (code f : Rw) (k : Nat) (t : Int32) : Int32 :=
  if code k < 0 then (if code k = Int32.ofInt (-1) then t ^^^ nI 1 else if code k = Int32.ofInt (-2) then (t >>> nI 1) &&& (((t &&& nI 1) - nI 2) ||| (t &&& nI 1)) else (t >>> nI 1) ||| (t &&& nI 1))
  else (t <<< nI 1) ||| b2 (ccp (code k) f)
noncomputable def crun (code f : Rw) : Nat → Nat → Int32 → Int32
  | 0, _, t => t
  | n + 1, k, t => crun code f n (k + 1) (cst code f k t)
def wfc (code : Rw) (k : Nat) : Prop := (∃ g l r, g ≤ 2 ∧ l < 10006 ∧ r < 10006 ∧ code k = nI ((g * 16384 + l) * 16384 + r)) ∨ code k = Int32.ofInt (-1) ∨ code k = Int32.ofInt (-2) ∨ code k = Int32.ofInt (-3)
def RepL (I : mI) (l : Nat) (s : Rw) : Prop :=
  I l 4 = s 6 ∧ ∃ t : Nat → Nat, (∀ i, i ≤ nL s → I (l + 3) i = nI (t i) ∧ t i ≤ 200) ∧ (∀ i, i < nL s → t i ≤ t (i + 1) ∧ I (l + 1) i = lF s i 0 ∧ I (l + 2) i = lF s i 1 ∧ (∀ k, t i ≤ k → k < t (i + 1) → wfc (I (l + 4)) k) ∧ (∀ f, (¬ crun (I (l + 4)) f (t (i + 1) - t i) (t i) (nI 1) &&& nI 1 = 0) ↔ hld s i f))
/-! a world of the class that says what the row says -/
def RepP (I : mI) (w : Nat) (s : Rw) (p : Nat) : Prop :=
  (∀ f, f < 8 → I (w + 13 + p) f = pF s p f) ∧ I (w + 13 + p) 9 = pF s p 8 ∧ I (w + 13 + p) 10 = b2 (isVd s p) ∧ I (w + 13 + p) 11 = b2 (isRs s p) ∧
  (∀ e, e < nE s → endAt s p e → I (w + 13 + p) 8 = nI e) ∧ ((∀ e, e < nE s → ¬ endAt s p e) → I (w + 13 + p) 8 = nI 999)
def Rep (I : mI) (w : Nat) (s : Rw) : Prop :=
  (I w 8 = s 0 ∧ I w 9 = s 1 ∧ I w 10 = s 2 ∧ I w 11 = s 3 ∧ I w 13 = s 4 ∧ I w 12 = s 5 ∧ I w 14 = s 7) ∧
  (∀ p, p < nP s → RepP I w s p) ∧
  (∀ e, e < nE s → ∀ f, f < 3 → I (w + 25 + e) f = eF s e f) ∧
  (∀ c, c < nC s → ∀ f, f < 5 → I (w + 43 + c) f = cF s c f) ∧
  (∀ k, k < nW s → ∀ f, f < 4 → I (w + 55 + k) f = wF s k f) ∧
  (∀ d, d < nD s → I (w + 5) d = dF s d 0 ∧ I (w + 6) d = dF s d 1) ∧
  RepL I (w + 7) s
/-! ===== what follows at once ===== -/
section RP
variable {I : mI} {J : mJ} {w p q e c d : Nat} {s : Rw} {x : Int32}
theorem Rep.day (h : Rep I w s) : I w 8 = s 0 := h.1.1
theorem Rep.ppl (h : Rep I w s) : I w 9 = s 1 := h.1.2.1
theorem Rep.evs (h : Rep I w s) : I w 10 = s 2 := h.1.2.2.1
theorem Rep.cls (h : Rep I w s) : I w 11 = s 3 := h.1.2.2.2.1
theorem Rep.dds (h : Rep I w s) : I w 13 = s 4 := h.1.2.2.2.2.1
theorem Rep.wds (h : Rep I w s) : I w 12 = s 5 := h.1.2.2.2.2.2.1
theorem Rep.zed (h : Rep I w s) : I w 14 = s 7 := h.1.2.2.2.2.2.2
theorem Rep.pF (h : Rep I w s) {f : Nat} (hp : p < nP s) (hf : f < 8) : I (w + 13 + p) f = pF s p f := (h.2.1 p hp).1 f hf
theorem Rep.lv (h : Rep I w s) (hp : p < nP s) : I (w + 13 + p) 9 = Jvm.Pilot.COneIsTwoLaw_law_r4618_45b3fe.pF s p 8 := (h.2.1 p hp).2.1
theorem Rep.vd (h : Rep I w s) (hp : p < nP s) : I (w + 13 + p) 10 = b2 (isVd s p) := (h.2.1 p hp).2.2.1
theorem Rep.rs (h : Rep I w s) (hp : p < nP s) : I (w + 13 + p) 11 = b2 (isRs s p) := (h.2.1 p hp).2.2.2.1
theorem Rep.eF (h : Rep I w s) {f : Nat} (he : e < nE s) (hf : f < 3) : I (w + 25 + e) f = eF s e f := h.2.2.1 e he f hf
theorem Rep.cF (h : Rep I w s) {f : Nat} (hc : c < nC s) (hf : f < 5) : I (w + 43 + c) f = cF s c f := h.2.2.2.1 c hc f hf
theorem Rep.wF (h : Rep I w s) {k f : Nat} (hk : k < nW s) (hf : f < 4) : I (w + 55 + k) f = wF s k f := h.2.2.2.2.1 k hk f hf
theorem Rep.d0 (h : Rep I w s) (hd : d < nD s) : I (w + 5) d = dF s d 0 := (h.2.2.2.2.2.1 d hd).1
theorem Rep.d1 (h : Rep I w s) (hd : d < nD s) : I (w + 6) d = dF s d 1 := (h.2.2.2.2.2.1 d hd).2
theorem Rep.L (h : Rep I w s) : RepL I (w + 7) s := h.2.2.2.2.2.2
theorem WF.day (h : WF s) : ∃ d, d ≤ 999 ∧ s 0 = nI d := h.1.1
theorem WF.nP (h : WF s) : nP s ≤ 12 ∧ s 1 = nI (nP s) := h.1.2.1
theorem WF.nE (h : WF s) : nE s ≤ 18 ∧ s 2 = nI (nE s) := h.1.2.2.1
theorem WF.nC (h : WF s) : nC s ≤ 12 ∧ s 3 = nI (nC s) := h.1.2.2.2.1
theorem WF.nD (h : WF s) : nD s ≤ 10 ∧ s 4 = nI (nD s) := h.1.2.2.2.2.1
theorem WF.nW (h : WF s) : nW s ≤ 8 ∧ s 5 = nI (nW s) := h.1.2.2.2.2.2.1
theorem WF.nL (h : WF s) : nL s ≤ 10 ∧ s 6 = nI (nL s) := h.1.2.2.2.2.2.2
theorem WF.per (h : WF s) (hp : p < Jvm.Pilot.COneIsTwoLaw_law_r4618_45b3fe.nP s) : wfP s p := h.2.1 p hp
theorem WF.eve (h : WF s) (he : e < Jvm.Pilot.COneIsTwoLaw_law_r4618_45b3fe.nE s) : wfE s e := h.2.2.1 e he
/-- a number below a count -/
theorem n_below {n : Nat} {x : Int32} (hn : n < 2 ^ 31) (h0 : ¬ x < 0) (h : x < nI n) : ∃ p, p < n ∧ x = nI p := by
  obtain ⟨j, hj, rfl⟩ := nI_of h0
  exact ⟨j, (nI_ltI hj hn).mp h, rfl⟩
theorem isP_n (h : WF s) (hx : isP s x) : ∃ p, p < nP s ∧ x = nI p := n_below (by have := h.nP.1; omega) hx.1 (by rw [← h.nP.2]; exact hx.2)
theorem isCl_n (h : WF s) (hx : isCl s x) : ∃ p, p < nC s ∧ x = nI p := n_below (by have := h.nC.1; omega) hx.1 (by rw [← h.nC.2]; exact hx.2)
theorem isDd_n (h : WF s) (hx : isDd s x) : ∃ p, p < nD s ∧ x = nI p := n_below (by have := h.nD.1; omega) hx.1 (by rw [← h.nD.2]; exact hx.2)
/-! ===== the class: what it asks of a world ===== -/
theorem k65 (hw : isW w) (h : Rep I w s) : am_cal (d + 1) 65 [.ref w, .int x] (mS I J) = some (some (.int (if isP s x then nI 1 else nI 0)), mS I J) := by
  rw [c_65 (w_C hw)]
  simp (disch := first | assumption | omega) only [mS_c, mS_l, mS_r, mS_i, mS_j, mS_pi, mS_pj, lt_st, bq_s, bV_s, bI_s, bJ_s, bA_s, w_C, w_R0, w_R1, w_R2, w_R3, w_R4, w_R5, w_R6, w_R7, w_C1, w_C2, w_C3, w_C4, w_C5, w_C6, w_C12, w_L1, w_L2, w_L3, w_L4, w_L5, w_L6, w_L12, w_cp, w_rp, w_ce, w_re, w_cc, w_rc, w_cd, w_rd, if_true, if_false, eq_self, true_and, and_true, false_or, or_false, true_or, or_true, false_and, and_false, not_true, not_false_eq_true, ne_eq, ite_self, ite_not, ↓reduceIte, h.ppl, isP]
  by_cases h1 : x < 0 <;> by_cases h2 : x < s 1 <;> simp only [h1, h2, if_true, if_false, eq_self, true_and, and_true, false_or, or_false, true_or, or_true, false_and, and_false, not_true, not_false_eq_true, ne_eq, ite_self, ite_not, ↓reduceIte]
theorem k68 (hw : isW w) (h : Rep I w s) (hW : WF s) (hp : p < nP s) : am_cal (d + 1) 68 [.ref w, .int (nI p)] (mS I J) = some (some (.int (if isAw s p then nI 1 else nI 0)), mS I J) := by
  have h12 := hW.nP.1
  rw [c_68 (w_C hw)]
  simp (disch := first | assumption | omega) only [mS_c, mS_l, mS_r, mS_i, mS_j, mS_pi, mS_pj, lt_st, bq_s, bV_s, bI_s, bJ_s, bA_s, w_C, w_R0, w_R1, w_R2, w_R3, w_R4, w_R5, w_R6, w_R7, w_C1, w_C2, w_C3, w_C4, w_C5, w_C6, w_C12, w_L1, w_L2, w_L3, w_L4, w_L5, w_L6, w_L12, w_cp, w_rp, w_ce, w_re, w_cc, w_rc, w_cd, w_rd, nI_add, nI_clamp, n_ge0, n_lt, n_eq, pk_mul, n_lef, n_let, n_ltf, n_ltt, Nat.reduceLeDiff, Nat.reduceEqDiff, Nat.reduceAdd, Nat.reduceMul, Nat.reduceSub, if_true, if_false, eq_self, true_and, and_true, false_or, or_false, true_or, or_true, false_and, and_false, not_true, not_false_eq_true, ne_eq, ite_self, ite_not, ↓reduceIte, h.pF, isAw, r_ite]
  by_cases h1 : pF s p 0 < nI 1 <;> by_cases h2 : nI 4 < pF s p 0 <;> simp only [h1, h2, if_true, if_false, eq_self, true_and, and_true, false_or, or_false, true_or, or_true, false_and, and_false, not_true, not_false_eq_true, ne_eq, ite_self, ite_not, ↓reduceIte]
end RP
