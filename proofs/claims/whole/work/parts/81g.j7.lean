/-! ===== the reader of a COND, as both see it ===== -/
abbrev PR : Type := Sum Nat (Tok × List PO)
abbrev okQ (T : Nat → Nat) (n : Nat) (t : Tok) : Prop := okK n t ∧ ∀ i, t.1 ≤ i → i < t.2 → dgt (T t.1) → dgt (T i)
def cmpN (T : Nat → Nat) (n : Nat) (t : Tok) : PR := match opd T n t with
  | none => .inl t.1
  | some l => if (nx T n t).1 < n ∧ 60 ≤ T (nx T n t).1 ∧ T (nx T n t).1 ≤ 62 then (match opd T n (nx T n (nx T n t)) with
    | none => .inl (nx T n (nx T n t)).1
    | some r => .inr (nx T n (nx T n (nx T n t)), [(0, T (nx T n t).1 - 60, l, r)])) else .inl (nx T n t).1
def ntU (T : Nat → Nat) (n : Nat) : Nat → Nat → Tok → Nat × Tok
  | 0, g, t => (g, t)
  | f + 1, g, t => if wdW T t [110, 111, 116] then ntU T n f (1 - g) (nx T n t) else (g, t)
def lpU (T : Nat → Nat) (n : Nat) (w : List Nat) (op : PO) (P : Tok → PR) : Nat → Tok → List PO → PR
  | 0, t, o => .inr (t, o)
  | f + 1, t, o => if wdW T t w then (match P (nx T n t) with
    | .inl p => .inl p
    | .inr (t', o') => lpU T n w op P f t' (o ++ (o' ++ [op]))) else .inr (t, o)
def ngO (g : Nat) : List PO := if g = 0 then [] else [(1, 0, 0, 0)]
def oneG (T : Nat → Nat) (n : Nat) (sub : Option (Tok → PR)) (t : Tok) : PR :=
  if (ntU T n n 0 t).2.1 < n ∧ T (ntU T n n 0 t).2.1 = 40 then (match sub with
    | none => .inl (ntU T n n 0 t).2.1
    | some A => match A (nx T n (ntU T n n 0 t).2) with
      | .inl p => .inl p
      | .inr (t2, o) => if t2.1 < n ∧ T t2.1 = 41 then .inr (nx T n t2, o ++ ngO (ntU T n n 0 t).1) else .inl t2.1)
  else match cmpN T n (ntU T n n 0 t).2 with
    | .inl p => .inl p
    | .inr (t2, o) => .inr (t2, o ++ ngO (ntU T n n 0 t).1)
def allG (T : Nat → Nat) (n : Nat) (sub : Option (Tok → PR)) (t : Tok) : PR := match oneG T n sub t with
  | .inl p => .inl p
  | .inr (t', o) => lpU T n [97, 110, 100] (2, 0, 0, 0) (oneG T n sub) n t' o
def anyG (T : Nat → Nat) (n : Nat) (sub : Option (Tok → PR)) (t : Tok) : PR := match allG T n sub t with
  | .inl p => .inl p
  | .inr (t', o) => lpU T n [111, 114] (3, 0, 0, 0) (allG T n sub) n t' o
def subK (T : Nat → Nat) (n : Nat) : Nat → Option (Tok → PR)
  | 0 => none
  | k + 1 => some (anyG T n (subK T n k))
/-- how deep a pile goes -/
def dpR : List PO → Nat → Nat → Nat → Prop
  | [], d, _, f => d = f
  | x :: l, d, b, f => (x.1 = 0 ∧ x.2.1 ≤ 2 ∧ x.2.2.1 < 10006 ∧ x.2.2.2 < 10006 ∧ d + 1 ≤ b ∧ dpR l (d + 1) b f) ∨ (x.1 = 1 ∧ 1 ≤ d ∧ dpR l d b f) ∨ ((x.1 = 2 ∨ x.1 = 3) ∧ 2 ≤ d ∧ dpR l (d - 1) b f)
/-- what a piece that is read has: it goes on, writes no more than it reads, and leaves one answer more -/
def okR2 (T : Nat → Nat) (n b : Nat) (P : Tok → PR) : Prop := ∀ t, okQ T n t → match P t with
  | .inl _ => True
  | .inr (t', o) => okQ T n t' ∧ t.1 + (eMs o).length ≤ t'.1 ∧ ∀ d, dpR o d (d + b) (d + 1)
section J7s
variable {I I' : mI} {J : mJ} {d k n q p i c m a e b L j : Nat} {x y z u v : Int32} {T : Nat → Nat} {t t' : Tok} {w cs : List Nat} {ws : List (List Nat)} {f : Option Nat} {xs : Nat → Int32} {all o o' : List PO} {code : List Int32}
theorem spd_all : ∀ f e i, e ≤ i → i < spd T n f e → dgt (T i)
  | 0, e, i, h1, h2 => by have : spd T n 0 e = e := rfl; omega
  | f + 1, e, i, h1, h2 => by
    rw [spd_s] at h2
    by_cases h : e < n ∧ dgt (T e)
    · rw [if_pos h] at h2
      by_cases hi : i = e
      · subst hi; exact h.2
      · exact spd_all f (e + 1) i (by omega) h2
    · rw [if_neg h] at h2; omega
theorem lx_q (h : e ≤ n) : okQ T n (lx T n e) := by
  refine ⟨lx_ok h, fun i h1 h2 h3 => ?_⟩
  unfold lx at h1 h2 h3
  generalize skp T n (n - e) e = a at *
  show dgt (T i)
  have h2' : i < lxE T n a := h2
  unfold lxE at h2'
  have h3' : dgt (T a) := h3
  have h1' : a ≤ i := h1
  by_cases ha : a < n
  · rw [if_pos ha, if_neg (by omega), if_pos h3'] at h2'
    by_cases hi : i = a
    · subst hi; exact h3'
    · exact spd_all _ (a + 1) i (by omega) h2'
  · rw [if_neg ha] at h2'; omega
theorem nx_q (h : okK n t) : okQ T n (nx T n t) := lx_q h.2.1
theorem nx_le (h : okK n t) : t.2 ≤ (nx T n t).1 := (lx_le h.2.1).1
theorem eMs_app : ∀ (a b : List PO), eMs (a ++ b) = eMs a ++ eMs b
  | [], _ => rfl
  | x :: a, b => by
    show eM x ++ eMs (a ++ b) = (eM x ++ eMs a) ++ eMs b
    rw [eMs_app a b, List.append_assoc]
theorem eM_len (x : PO) : 1 ≤ (eM x).length := by
  unfold eM
  split
  · exact Nat.succ_pos _
  · split
    · exact Nat.succ_pos _
    · split <;> exact Nat.succ_pos _
theorem eMs_len : ∀ (a : List PO), a.length ≤ (eMs a).length
  | [] => Nat.le_refl _
  | x :: a => by
    have := eMs_len a
    have h := eM_len x
    show a.length + 1 ≤ (eM x ++ eMs a).length
    rw [List.length_append]
    omega
theorem dpR_app : ∀ (l1 l2 : List PO) (d b f1 f : Nat), dpR l1 d b f1 → dpR l2 f1 b f → dpR (l1 ++ l2) d b f
  | [], l2, d, b, f1, f, h1, h2 => by have h : d = f1 := h1; subst h; exact h2
  | x :: l1, l2, d, b, f1, f, h1, h2 => by
    rcases h1 with ⟨h0, g1, g2, g3, g4, h⟩ | ⟨h0, g1, h⟩ | ⟨h0, g1, h⟩
    · exact Or.inl ⟨h0, g1, g2, g3, g4, dpR_app l1 l2 _ _ _ _ h h2⟩
    · exact Or.inr (Or.inl ⟨h0, g1, dpR_app l1 l2 _ _ _ _ h h2⟩)
    · exact Or.inr (Or.inr ⟨h0, g1, dpR_app l1 l2 _ _ _ _ h h2⟩)
theorem dpR_mono : ∀ (l : List PO) (d b b' f : Nat), b ≤ b' → dpR l d b f → dpR l d b' f
  | [], _, _, _, _, _, h => h
  | x :: l, d, b, b', f, hb, h1 => by
    rcases h1 with ⟨h0, g1, g2, g3, g4, h⟩ | ⟨h0, g1, h⟩ | ⟨h0, g1, h⟩
    · exact Or.inl ⟨h0, g1, g2, g3, by omega, dpR_mono l _ _ _ _ hb h⟩
    · exact Or.inr (Or.inl ⟨h0, g1, dpR_mono l _ _ _ _ hb h⟩)
    · exact Or.inr (Or.inr ⟨h0, g1, dpR_mono l _ _ _ _ hb h⟩)
theorem opd_b (ht : okQ T n t) (h : opd T n t = some i) : i < 10006 ∧ t.1 < n := by
  refine ⟨opd_lt (fun j h1 h2 h3 => (ht.2 j h1 h2 h3).2) h, ?_⟩
  unfold opd at h
  by_cases h1 : t.1 < n ∧ dgt (T t.1)
  · exact h1.1
  · rw [if_neg h1] at h
    rcases fnd_nm (T := T) ht.1 (show 11 < 12 by decide) (txW 11) 0 (fun w hw => hw) with h' | h'
    · exact h'.1
    · rw [h'] at h; cases h
theorem cmp_ok : okR2 T n 1 (cmpN T n) := by
  intro t ht
  unfold cmpN
  cases h1 : opd T n t with
  | none => trivial
  | some l =>
    have q1 := nx_q (T := T) ht.1
    have q2 := nx_q (T := T) q1.1
    have q3 := nx_q (T := T) q2.1
    have l1 := nx_le (T := T) ht.1
    have l2 := nx_le (T := T) q1.1
    have l3 := nx_le (T := T) q2.1
    have b1 := opd_b ht h1
    show match (if _ then _ else _ : PR) with | .inl _ => True | .inr (t', o) => _
    by_cases hs : (nx T n t).1 < n ∧ 60 ≤ T (nx T n t).1 ∧ T (nx T n t).1 ≤ 62
    · rw [if_pos hs]
      cases h2 : opd T n (nx T n (nx T n t)) with
      | none => trivial
      | some r =>
        have b2 := opd_b q2 h2
        have := ht.1.2.2 b1.2
        have := q1.1.2.2 hs.1
        have := q2.1.2.2 b2.2
        refine ⟨q3, ?_, fun d => Or.inl ⟨rfl, ?_, b1.1, b2.1, Nat.le_refl _, rfl⟩⟩
        · show t.1 + 3 ≤ _
          omega
        · show T (nx T n t).1 - 60 ≤ 2
          omega
    · rw [if_neg hs]; trivial
theorem wd_len (ht : okK n t) (h : wdW T t w) : t.1 + w.length ≤ t.2 := by
  have := (wdW_iff ht.1).mp h
  have := ht.1
  omega
theorem nt_ok : ∀ f g t, okQ T n t → g ≤ 1 → okQ T n (ntU T n f g t).2 ∧ (ntU T n f g t).1 ≤ 1 ∧ t.1 ≤ (ntU T n f g t).2.1 ∧ ((ntU T n f g t).1 = g ∨ t.1 + 3 ≤ (ntU T n f g t).2.1)
  | 0, g, t, ht, hg => ⟨ht, hg, Nat.le_refl _, Or.inl rfl⟩
  | f + 1, g, t, ht, hg => by
    show okQ T n (if wdW T t [110, 111, 116] then ntU T n f (1 - g) (nx T n t) else (g, t)).2 ∧ (if wdW T t [110, 111, 116] then ntU T n f (1 - g) (nx T n t) else (g, t)).1 ≤ 1 ∧ t.1 ≤ (if wdW T t [110, 111, 116] then ntU T n f (1 - g) (nx T n t) else (g, t)).2.1 ∧ ((if wdW T t [110, 111, 116] then ntU T n f (1 - g) (nx T n t) else (g, t)).1 = g ∨ t.1 + 3 ≤ (if wdW T t [110, 111, 116] then ntU T n f (1 - g) (nx T n t) else (g, t)).2.1)
    by_cases h : wdW T t [110, 111, 116]
    · rw [if_pos h]
      obtain ⟨a, b, c, e⟩ := nt_ok f (1 - g) (nx T n t) (nx_q ht.1) (by omega)
      have h1 := wd_len ht.1 h
      have h2 := nx_le (T := T) ht.1
      have h3 : ([110, 111, 116] : List Nat).length = 3 := rfl
      exact ⟨a, b, by omega, Or.inr (by omega)⟩
    · rw [if_neg h]; exact ⟨ht, hg, Nat.le_refl _, Or.inl rfl⟩
theorem lp_ok {P : Tok → PR} {op : PO} (hw : w.length = 2 ∨ w.length = 3) (hop : op.1 = 2 ∨ op.1 = 3) (hP : okR2 T n b P) : ∀ f t o, okQ T n t → (∀ d, dpR o d (d + (b + 1)) (d + 1)) → match lpU T n w op P f t o with
    | .inl _ => True
    | .inr (t', o') => okQ T n t' ∧ t.1 + (eMs o').length ≤ t'.1 + (eMs o).length ∧ ∀ d, dpR o' d (d + (b + 1)) (d + 1)
  | 0, t, o, ht, ho => ⟨ht, Nat.le_refl _, ho⟩
  | f + 1, t, o, ht, ho => by
    show match (if wdW T t w then (match P (nx T n t) with | .inl p => .inl p | .inr (t', o') => lpU T n w op P f t' (o ++ (o' ++ [op]))) else .inr (t, o) : PR) with
      | .inl _ => True
      | .inr (t', o') => okQ T n t' ∧ t.1 + (eMs o').length ≤ t'.1 + (eMs o).length ∧ ∀ d, dpR o' d (d + (b + 1)) (d + 1)
    by_cases h : wdW T t w
    · rw [if_pos h]
      have q1 := nx_q (T := T) ht.1
      have h1 := wd_len ht.1 h
      have h2 := nx_le (T := T) ht.1
      have hp := hP (nx T n t) q1
      cases hc : P (nx T n t) with
      | inl p => trivial
      | inr r =>
        obtain ⟨t1, o1⟩ := r
        rw [hc] at hp
        obtain ⟨p1, p2, p3⟩ := hp
        have hop1 : (eMs [op]).length = 1 := by
          unfold eMs eMs eM
          rcases hop with e | e <;> rw [e] <;> rfl
        have ho' : ∀ d, dpR (o ++ (o1 ++ [op])) d (d + (b + 1)) (d + 1) := fun d => by
          refine dpR_app o _ d _ (d + 1) _ (ho d) (dpR_app o1 _ (d + 1) _ (d + 2) _ (dpR_mono _ _ _ _ _ (by omega) (p3 (d + 1))) ?_)
          exact Or.inr (Or.inr ⟨hop, by omega, by show d + 2 - 1 = d + 1; omega⟩)
        have hh := lp_ok hw hop hP f t1 (o ++ (o1 ++ [op])) p1 ho'
        show match lpU T n w op P f t1 (o ++ (o1 ++ [op])) with
          | .inl _ => True
          | .inr (t', o') => okQ T n t' ∧ t.1 + (eMs o').length ≤ t'.1 + (eMs o).length ∧ ∀ d, dpR o' d (d + (b + 1)) (d + 1)
        cases hl : lpU T n w op P f t1 (o ++ (o1 ++ [op])) with
        | inl p => trivial
        | inr r2 =>
          obtain ⟨t2, o2⟩ := r2
          rw [hl] at hh
          obtain ⟨g1, g2, g3⟩ := hh
          rw [eMs_app, eMs_app, List.length_append, List.length_append, hop1] at g2
          exact ⟨g1, by omega, g3⟩
    · rw [if_neg h]; exact ⟨ht, Nat.le_refl _, ho⟩
theorem ng_ok {g : Nat} (h : 1 ≤ d) : dpR (ngO g) d b d ∧ (eMs (ngO g)).length = if g = 0 then 0 else 1 := by
  unfold ngO
  by_cases hg : g = 0
  · rw [if_pos hg, if_pos hg]; exact ⟨rfl, rfl⟩
  · rw [if_neg hg, if_neg hg]; exact ⟨Or.inr (Or.inl ⟨rfl, h, rfl⟩), rfl⟩
def bO (k : Nat) : Nat := 2 * k + 1
theorem one_ok {sub : Option (Tok → PR)} (hs : ∀ A, sub = some A → okR2 T n (b - 0) A) (hb : 1 ≤ b) : okR2 T n b (oneG T n sub) := by
  intro t ht
  obtain ⟨n1, n2, n3, n4⟩ := nt_ok (T := T) n 0 t ht (by decide)
  unfold oneG
  generalize hr : ntU T n n 0 t = r at *
  obtain ⟨g, t1⟩ := r
  simp only at n1 n2 n3 n4
  dsimp only
  have hg0 : (if g = 0 then 0 else 1) + t.1 ≤ t1.1 := by
    by_cases hg : g = 0
    · rw [if_pos hg]; omega
    · rw [if_neg hg]
      rcases n4 with h | h
      · exact absurd h hg
      · omega
  by_cases h : t1.1 < n ∧ T t1.1 = 40
  · rw [if_pos h]
    cases hsub : sub with
    | none => trivial
    | some A =>
      have q1 := nx_q (T := T) n1.1
      have l1 := nx_le (T := T) n1.1
      have l0 := n1.1.2.2 h.1
      have hA := hs A hsub (nx T n t1) q1
      show match (match A (nx T n t1) with | .inl p => .inl p | .inr (t2, o) => if t2.1 < n ∧ T t2.1 = 41 then .inr (nx T n t2, o ++ ngO g) else .inl t2.1 : PR) with
        | .inl _ => True
        | .inr (t', o) => okQ T n t' ∧ t.1 + (eMs o).length ≤ t'.1 ∧ ∀ d, dpR o d (d + b) (d + 1)
      cases hc : A (nx T n t1) with
      | inl p => trivial
      | inr r =>
        obtain ⟨t2, o⟩ := r
        rw [hc] at hA
        obtain ⟨p1, p2, p3⟩ := hA
        show match (if t2.1 < n ∧ T t2.1 = 41 then .inr (nx T n t2, o ++ ngO g) else .inl t2.1 : PR) with
          | .inl _ => True
          | .inr (t', o) => okQ T n t' ∧ t.1 + (eMs o).length ≤ t'.1 ∧ ∀ d, dpR o d (d + b) (d + 1)
        by_cases h2 : t2.1 < n ∧ T t2.1 = 41
        · rw [if_pos h2]
          have l3 := nx_le (T := T) p1.1
          have l4 := p1.1.2.2 h2.1
          refine ⟨nx_q p1.1, ?_, fun d => dpR_app o _ d _ (d + 1) _ (p3 d) (ng_ok (by omega)).1⟩
          rw [eMs_app, List.length_append, (ng_ok (d := 1) (b := 1) (Nat.le_refl _)).2]
          omega
        · rw [if_neg h2]; trivial
  · rw [if_neg h]
    have hA := cmp_ok t1 n1
    cases hc : cmpN T n t1 with
    | inl p => trivial
    | inr r =>
      obtain ⟨t2, o⟩ := r
      rw [hc] at hA
      obtain ⟨p1, p2, p3⟩ := hA
      refine ⟨p1, ?_, fun d => dpR_app o _ d _ (d + 1) _ (dpR_mono _ _ _ _ _ (by omega) (p3 d)) (ng_ok (by omega)).1⟩
      rw [eMs_app, List.length_append, (ng_ok (d := 1) (b := 1) (Nat.le_refl _)).2]
      omega
theorem all_ok {sub : Option (Tok → PR)} (hs : okR2 T n b (oneG T n sub)) : okR2 T n (b + 1) (allG T n sub) := by
  intro t ht
  have h := hs t ht
  unfold allG
  cases hc : oneG T n sub t with
  | inl p => trivial
  | inr r =>
    obtain ⟨t1, o1⟩ := r
    rw [hc] at h
    obtain ⟨p1, p2, p3⟩ := h
    have hh := lp_ok (w := [97, 110, 100]) (op := (2, 0, 0, 0)) (Or.inr rfl) (Or.inl rfl) hs n t1 o1 p1 (fun d => dpR_mono _ _ _ _ _ (by omega) (p3 d))
    show match lpU T n [97, 110, 100] (2, 0, 0, 0) (oneG T n sub) n t1 o1 with
      | .inl _ => True
      | .inr (t', o) => okQ T n t' ∧ t.1 + (eMs o).length ≤ t'.1 ∧ ∀ d, dpR o d (d + (b + 1)) (d + 1)
    cases hl : lpU T n [97, 110, 100] (2, 0, 0, 0) (oneG T n sub) n t1 o1 with
    | inl p => trivial
    | inr r2 =>
      obtain ⟨t2, o2⟩ := r2
      rw [hl] at hh
      obtain ⟨g1, g2, g3⟩ := hh
      exact ⟨g1, by omega, g3⟩
theorem any_ok {sub : Option (Tok → PR)} (hs : okR2 T n b (allG T n sub)) : okR2 T n (b + 1) (anyG T n sub) := by
  intro t ht
  have h := hs t ht
  unfold anyG
  cases hc : allG T n sub t with
  | inl p => trivial
  | inr r =>
    obtain ⟨t1, o1⟩ := r
    rw [hc] at h
    obtain ⟨p1, p2, p3⟩ := h
    have hh := lp_ok (w := [111, 114]) (op := (3, 0, 0, 0)) (Or.inl rfl) (Or.inr rfl) hs n t1 o1 p1 (fun d => dpR_mono _ _ _ _ _ (by omega) (p3 d))
    show match lpU T n [111, 114] (3, 0, 0, 0) (allG T n sub) n t1 o1 with
      | .inl _ => True
      | .inr (t', o) => okQ T n t' ∧ t.1 + (eMs o).length ≤ t'.1 ∧ ∀ d, dpR o d (d + (b + 1)) (d + 1)
    cases hl : lpU T n [111, 114] (3, 0, 0, 0) (allG T n sub) n t1 o1 with
    | inl p => trivial
    | inr r2 =>
      obtain ⟨t2, o2⟩ := r2
      rw [hl] at hh
      obtain ⟨g1, g2, g3⟩ := hh
      exact ⟨g1, by omega, g3⟩
theorem sub_ok : ∀ k, okR2 T n (2 * k + 1) (oneG T n (subK T n k)) ∧ okR2 T n (2 * k + 2) (allG T n (subK T n k)) ∧ okR2 T n (2 * k + 3) (anyG T n (subK T n k))
  | 0 => by
    have h1 : okR2 T n 1 (oneG T n (subK T n 0)) := one_ok (fun A h => by cases h) (Nat.le_refl _)
    exact ⟨h1, all_ok h1, any_ok (all_ok h1)⟩
  | k + 1 => by
    obtain ⟨_, _, h3⟩ := sub_ok k
    have h1 : okR2 T n (2 * (k + 1) + 1) (oneG T n (subK T n (k + 1))) := one_ok (fun A h => by cases h; exact h3) (by omega)
    exact ⟨h1, all_ok h1, any_ok (all_ok h1)⟩
end J7s
