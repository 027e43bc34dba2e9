/-! ===== what is there besides the world: rows of numbers, texts, the script; words across the nest ===== -/
def am_st (j : Nat) : List Int32 := match j with
  | 0 => [10, 10, 30, 40, 10, 30, 10, 80]
  | 1 => [11, 20, 11, 11, 60, 51, 11, 81]
  | 2 => [12, 12, 12, 12, 12, 50, 12, 82]
  | _ => [13, 13, 31, 31, 13, 31, 70, 83]
def am_xl (L j : Nat) : Nat := match j with
  | 4 => L
  | _ => 8
def am_xf (xs : Nat → Int32) (j k : Nat) : Int32 := match j with
  | 4 => xs k
  | j => (am_st j).getD k 0
def am_sl : List Nat := [21, 16, 15, 20, 11, 11, 36, 2, 2, 3, 3, 29]
def am_bt : List (List Int32) := [[102, 105, 114, 115, 116, 32, 99, 111, 112, 121, 32, 115, 104, 97, 114, 101, 100, 32, 97, 108, 108], [98, 111, 100, 121, 32, 109, 101, 109, 111, 114, 121, 32, 114, 111, 111, 116], [101, 97, 99, 104, 32, 114, 111, 111, 116, 32, 115, 104, 97, 114, 101], [109, 97, 107, 101, 114, 32, 99, 111, 112, 121, 32, 98, 111, 116, 104, 32, 110, 111, 110, 101], [102, 114, 101, 101, 32, 110, 101, 101, 100, 101, 100], [114, 101, 115, 116, 115, 32, 98, 101, 97, 114, 115], [111, 119, 101, 115, 32, 111, 119, 110, 115, 32, 98, 108, 97, 109, 101, 32, 118, 111, 116, 101, 32, 119, 101, 100, 32, 108, 101, 97, 118, 101, 32, 115, 108, 101, 101, 112], [105, 102], [111, 114], [97, 110, 100], [110, 111, 116], [100, 97, 121, 32, 109, 97, 100, 101, 32, 103, 97, 112, 32, 107, 105, 110, 100, 32, 97, 109, 111, 117, 110, 116, 32, 104, 101, 108, 100]]
def am_E (A : Nat → Prop) (ad adV : Nat → Nat) (L : Nat) (xs : Nat → Int32) (U : State) (H : Heap) : Prop :=
  (∀ j, j < 4 → va_Z "OneIsTwo$Actor" (am_gx j) "[I" (.ref (ad (2000000 + j))) A U H) ∧
  (∀ j, j < 5 → va_T .int (ad (2000000 + j)) (am_xl L j) (fun k => .int (am_xf xs j k)) A U H) ∧
  vk_S 12 am_sl am_bt (fun i => ad (4000000 + i)) adV A U H ∧
  (∀ q ∈ lk_s, vk_R (am_on q.1) q.2.1 (am_sx q.2.2) (ad (4000000 + q.2.2)) U) ∧
  va_Z "java/lang/String" "COMPACT_STRINGS" "Z" (.int 1) A U H ∧
  va_Zq "jdk/internal/util/Preconditions" "SIOOBE_FORMATTER" "Ljava/util/function/BiFunction;" A U H
def am_NW (U : State) : Prop := (∀ q ∈ lk_nm, va_Nw (lk_nmw q) U) ∧ va_Nw lk_fn U ∧ (∀ k, k = 1 ∨ k = 2 ∨ k = 7 ∨ k = 9 → va_AO (am_on k) U) ∧ (Cond.arrayOver (.array .int)).before #[] U = true ∧ (Cond.arrayOver (.array .long)).before #[] U = true
/-- the numbers' side: which kinds there are; what is there besides lies where it should -/
def am_vk (c : Nat) : Prop := c < 13 ∨ c = 100 ∨ c = 101 ∨ c = 102 ∨ c = 104 ∨ c = 105 ∨ c = 110 ∨ c = 112 ∨ c = 180 ∨ c = 182
def am_Iv (L : Nat) (xs : Nat → Int32) (S : am_S) : Prop :=
  (∀ a, am_c S a < 900 → a < am_n S ∧ am_vk (am_c S a)) ∧
  (∀ a, am_c S a = 997 → ∃ i, i < 12 ∧ a = 4000000 + i) ∧
  (∀ a, am_c S a = 998 → ∃ j, j < 5 ∧ a = 2000000 + j) ∧
  (∀ j, j < 5 → ∀ k, k < am_xl L j → am_i S (2000000 + j) k = am_xf xs j k) ∧
  (∀ j, j < 5 → am_i S (3000000 + j) 0 = nI (am_xl L j)) ∧
  (∀ i, i < 12 → ∀ k, k < am_sl.getD i 0 → am_i S (4000000 + i) k = (am_bt.getD i []).getD k 0) ∧
  (∀ i, i < 12 → am_i S (5000000 + i) 0 = nI (am_sl.getD i 0)) ∧
  (∀ a j r, am_r S a j = some r → r < am_n S) ∧
  am_n S < 1200
/-- two tables of addresses agree on the first n cells, and on what is there besides -/
def am_ag (n : Nat) (ad ad' : Nat → Nat) : Prop := ∀ k, k < n ∨ 2000000 ≤ k → ad' k = ad k
theorem am_ag.rf {n : Nat} {ad : Nat → Nat} : am_ag n ad ad := fun _ _ => rfl
theorem am_ag.tr {n m : Nat} {a b c : Nat → Nat} (h1 : am_ag n a b) (h2 : am_ag m b c) (h : n ≤ m) : am_ag n a c := fun k hk => (h2 k (hk.elim (fun q => Or.inl (by omega)) Or.inr)).trans (h1 k hk)
theorem am_E.ag {A : Nat → Prop} {ad ad' adV : Nat → Nat} {L n : Nat} {xs : Nat → Int32} {U : State} {H : Heap} (h : am_E A ad adV L xs U H) (g : am_ag n ad ad') : am_E A ad' adV L xs U H := by
  obtain ⟨h1, h2, h3, h4, h5, h6⟩ := h
  refine ⟨fun j hj => ?_, fun j hj => ?_, ?_, fun q hq => ?_, h5, h6⟩
  · rw [g _ (Or.inr (by omega))]; exact h1 j hj
  · rw [g _ (Or.inr (by omega))]; exact h2 j hj
  · rw [show (fun i => ad' (4000000 + i)) = fun i => ad (4000000 + i) from funext fun i => g _ (Or.inr (by omega))]; exact h3
  · rw [g _ (Or.inr (by omega))]; exact h4 q hq
theorem am_E.kept {A : Nat → Prop} {ad adV : Nat → Nat} {L : Nat} {xs : Nat → Int32} {U : State} {H H1 : Heap} (h : am_E A ad adV L xs U H) (hq : ∀ a : Nat, a < H.size → ¬ A a → H1[a]? = H[a]?) : am_E A ad adV L xs U H1 := by
  obtain ⟨h1, h2, h3, h4, h5, h6⟩ := h
  exact ⟨fun j hj => (h1 j hj).kept hq, fun j hj => (h2 j hj).kept hq, h3.kept hq, h4, h5.kept hq, h6.kept hq⟩
theorem am_E.warm {A : Nat → Prop} {ad adV : Nat → Nat} {L : Nat} {xs : Nat → Int32} {s U : State} {H : Heap} (hW : s.WarmedH U.vm) (h : am_E A ad adV L xs s H) : am_E A ad adV L xs U H := by
  obtain ⟨h1, h2, h3, h4, h5, h6⟩ := h
  exact ⟨fun j hj => va_Z.moved hW.alike (h1 j hj), fun j hj => va_T.moved hW.alike (h2 j hj), vk_S.moved hW.alike h3, fun q hq => (h4 q hq).warm hW, va_Z.moved hW.alike h5, va_Zq.moved hW.alike h6⟩
theorem am_E.same {A : Nat → Prop} {ad adV : Nat → Nat} {L : Nat} {xs : Nat → Int32} {u U : State} {H : Heap} (hv : U.vm = u.vm) (h : am_E A ad adV L xs u H) : am_E A ad adV L xs U H := by
  obtain ⟨h1, h2, h3, h4, h5, h6⟩ := h
  have hA : u.vm.Alike U.vm := by rw [hv]; exact Vm.Alike.refl _
  exact ⟨fun j hj => va_Z.moved hA (h1 j hj), fun j hj => va_T.moved hA (h2 j hj), vk_S.moved hA h3, fun q hq => (h4 q hq).same hv, va_Z.moved hA h5, va_Zq.moved hA h6⟩
theorem am_overA {args : Array Value} {s : State} {t : FieldType} (h : (Cond.arrayOver (.array t)).before args s = true) :
    ∃ comp c k, s.vm.findClass (FieldType.array t).toString = some comp ∧ (s.vm.classes.findIdx? fun x => match x.kind with | .array component _ => component == comp | _ => false) = some c ∧ s.vm.classes[c]? = some k ∧ k.kind = .array comp (.array t) ∧
      s.vm.findClass ("[" ++ (FieldType.array t).toString) = some c := by
  have h : (Cond.arrayOver (.array t)).holds args s none s [] = true := h
  simp only [Cond.holds, Cond.value, beq_iff_eq] at h
  cases hc : s.vm.findClass (FieldType.array t).toString with
  | none => simp [hc] at h
  | some comp =>
    simp only [hc, Option.bind_some, Option.bind_eq_some_iff, Option.map_eq_some_iff] at h
    obtain ⟨c, hi, k, hk, hb⟩ := h
    obtain ⟨hlt, hp, -⟩ := Array.findIdx?_eq_some_iff_getElem.mp hi
    have hkk : s.vm.classes[c] = k := (Array.getElem?_eq_some_iff.mp hk).2
    rw [hkk] at hp
    cases hkind : k.kind with
    | array component ty =>
      rw [hkind] at hb hp
      simp at hb hp
      exact ⟨comp, c, k, rfl, hi, hk, by rw [hkind, hp, hb.1], hb.2⟩
    | _ => rw [hkind] at hb; simp at hb
theorem am_over_moved {t : FieldType} {u U : State} (hvm : u.vm.Alike U.vm) (h : (Cond.arrayOver (.array t)).before #[] u = true) : (Cond.arrayOver (.array t)).before #[] U = true := by
  obtain ⟨comp, c, k, h1, h2, h3, h4, h5⟩ := am_overA h
  obtain ⟨k', hk', he⟩ := hvm.2.2 _ _ h3
  have hi : (U.vm.classes.findIdx? fun (x : Class) => match x.kind with | .array component _ => component == comp | _ => false) = some c := by
    refine (va_idx_bare U.vm comp).symm.trans ?_
    have e3 : U.vm.bare = u.vm.bare := by first | exact hvm.bare_eq | exact hvm.bare_eq.symm
    rw [e3]
    exact (va_idx_bare u.vm comp).trans h2
  have hkind : k'.kind = .array comp (.array t) := by rw [he]; exact h4
  have f1 : U.vm.findClass (FieldType.array t).toString = some comp := by rw [hvm.findClass]; exact h1
  have f2 : U.vm.findClass ("[" ++ (FieldType.array t).toString) = some c := by rw [hvm.findClass]; exact h5
  unfold Cond.before Cond.holds
  simp only [Cond.value]
  rw [f1, Option.bind_some]
  refine (congrArg (fun o : Option Nat => (o.bind (fun c => (U.vm.classes[c]?).map fun (k : Class) => match k.kind with | .array _ ty => decide (ty = FieldType.array t) && decide (U.vm.findClass ("[" ++ (FieldType.array t).toString) = some c) | _ => false) == some true)) hi).trans ?_
  simp [hk', hkind, f2]
theorem am_NW.warm {s U : State} (hW : s.WarmedH U.vm) (h : am_NW s) : am_NW U := by
  obtain ⟨h1, h2, h3, h4, h5⟩ := h
  exact ⟨fun q hq => va_Nw.warmM hW (h1 q hq), va_Nw.warmF hW h2, fun k hk => va_AO.moved hW.alike (h3 k hk), am_over_moved hW.alike h4, am_over_moved hW.alike h5⟩
theorem am_NW.same {u U : State} (hv : u.vm = U.vm) (h : am_NW u) : am_NW U := by
  obtain ⟨h1, h2, h3, h4, h5⟩ := h
  exact ⟨fun q hq => va_Nw.same rfl hv (h1 q hq), va_Nw.same rfl hv h2, fun k hk => va_AO.moved (by rw [hv]; exact Vm.Alike.refl _) (h3 k hk), am_over_moved (by rw [hv]; exact Vm.Alike.refl _) h4, am_over_moved (by rw [hv]; exact Vm.Alike.refl _) h5⟩
/-! ===== the words that a method hands on ===== -/
def lw_gw : List Cond := lw_tbl.filter goodWord
theorem lw_gw_in {w : Cond} (h : w ∈ lw_tbl) (hg : goodWord w = true) : w ∈ lw_gw := List.mem_filter.mpr ⟨h, hg⟩
def pg_ws (y : Nat) : List Cond := .code (pg_nm y) (pg_by y) (pg_mx y) (pg_rt y) :: lw_gw
theorem pg_ws_in {y : Nat} (h : y ∈ pg_ys.flatten) : GoodIn lw_gw (pg_ws y) := by
  intro w hw
  rcases List.mem_cons.mp hw with rfl | hw
  · exact ⟨lw_gw_in (pg_w_ok y h _ List.mem_cons_self) rfl, Or.inl rfl⟩
  · exact ⟨hw, good_of_word (List.mem_filter.mp hw).2⟩
/-- what holds where a method begins, and ends -/
def am_B (A : Nat → Prop) (D : va_G) (dA : Nat → ClassId) (ad adV : Nat → Nat) (L : Nat) (xs : Nat → Int32) (S : am_S) (U : State) : Prop :=
  va_K D vwCl (am_tys dA) U ∧ am_NW U ∧ am_E A ad adV L xs U U.heap ∧ va_P D vwCl (am_wd dA ad S) U.heap ∧ va_D A (am_wd dA ad S) ∧ am_Iv L xs S ∧ ∀ q, U.heap.size ≤ q → A q
def am_B1 (A : Nat → Prop) (D : va_G) (dA : Nat → ClassId) (ad : Nat → Nat) (L : Nat) (xs : Nat → Int32) (S : am_S) (t : State) : Prop :=
  va_P D vwCl (am_wd dA ad S) t.heap ∧ va_D A (am_wd dA ad S) ∧ am_Iv L xs S
def am_Q (A : Nat → Prop) (D : va_G) (dA : Nat → ClassId) (ad : Nat → Nat) (L : Nat) (xs : Nat → Int32) (n : Nat) (v : Option Value) (S' : am_S) : Array Value → State → Outcome → State → Prop := fun _ st oc t =>
  (∃ ad' : Nat → Nat, oc = .returned (v.map (am_tr ad')) ∧ am_ag n ad ad' ∧ am_B1 A D dA ad' L xs S' t ∧ ∀ x, v = some (.ref x) → 2000000 ≤ x) ∧ va_F A st t
/-- a method does what the small machine says -/
def am_M (l : Launch) (d y : Nat) (as : List Value) (S : am_S) (v : Option Value) (S' : am_S) : Prop :=
  ∀ (A : Nat → Prop) (D : va_G) (dA : Nat → ClassId) (ad adV : Nat → Nat) (L : Nat) (xs : Nat → Int32), L < 2 ^ 31 →
    Met l (pg_nm y) (pg_ws y) { frames := d + 8, cells := am_n S' - am_n S, slots := am_w S' - am_w S, locals := 64 * (d + 8) } (va_Pc (as.map (am_tr ad)) (am_B A D dA ad adV L xs S)) (am_Q A D dA ad L xs (am_n S) v S') (am_n S' - am_n S) (am_w S' - am_w S) A
theorem am_B.blind {A : Nat → Prop} {D : va_G} {dA : Nat → ClassId} {ad adV : Nat → Nat} {L : Nat} {xs : Nat → Int32} {S : am_S} {av : List Value} : FrameBlind (va_Pc av (am_B A D dA ad adV L xs S)) := by
  intro a U g mk q
  obtain ⟨q0, k1, k2, k3, k4, k5, k6, k7⟩ := q
  exact ⟨q0, va_K.moved (u := U) (U := U.calling g mk a) (Vm.Alike.refl U.vm) k1, am_NW.same (U := U.calling g mk a) rfl k2, am_E.same (U := U.calling g mk a) rfl k3, k4, k5, k6, k7⟩
section CK
variable {p : Program} {l : Launch} {e : Env} {R : Room} {s : State} {m : MethodId} {args : Array Value} {below : List Frame} {meth : Method} {c : Code} {H : Heap} {locs : List Loc} {cells slots : Nat} {Q : State → Prop}
variable {pc : Nat} {ls : Array Slot} {rest st0 : List Value} {a : Array Value} {A : Nat → Prop} {H0 : Heap} {mc ms : Nat}
theorem am_callk {D : va_G} {dA : Nat → ClassId} {ad : Nat → Nat} {L n : Nat} {xs : Nat → Int32} {v : Option Value} {S' : am_S} (hr : va_Run p l e R s m args below meth c H locs cells slots mc ms (F0 m pc ls st0) rest (am_Q A D dA ad L xs n v S' a) A) (hS : va_S A H0 H locs)
    (kk : ∀ (ad' : Nat → Nat) (t : State) (H1 : Heap) (locs1 : List Loc), t.heap = H1 → s.vm.Alike t.vm → am_ag n ad ad' → (va_P D vwCl (am_wd dA ad' S') t.heap ∧ va_D A (am_wd dA ad' S') ∧ am_Iv L xs S' ∧ ∀ x, v = some (.ref x) → 2000000 ≤ x) → va_S A H0 H1 locs1 → W p l e R s m args below meth c H1 locs1 (cells + mc) (slots + ms) Q (F0 m (pc + 3) ls ((v.map (am_tr ad')).toList ++ rest))) : W p l e R s m args below meth c H locs cells slots Q (F0 m pc ls st0) := by
  intro T hT X
  obtain ⟨v1, st₀, t, T', L1, h0, X', hL, e1, e2, ⟨⟨ad', hv, hg, hb, hr9⟩, hz, hk⟩, st⟩ := hr T hT X
  cases hv
  rw [h0] at hz hk
  obtain ⟨t2, a1, b1⟩ := kk ad' t T'.heap (locs ++ L1) e1.symm (by rw [← e2]; exact X'.warmed.alike) hg ⟨hb.1, hb.2.1, hb.2.2, hr9⟩
    ⟨Nat.le_trans hS.1 (by rw [e1]; exact hz), fun q h1 h2 => by rw [e1, hk q (Nat.lt_of_lt_of_le h1 hS.1) h2]; exact hS.2.1 q h1 h2, fun q hq => by
      rcases List.mem_append.mp hq with h | h
      · exact hS.2.2 q h
      · exact hL q h⟩ T' rfl X'
  exact ⟨t2, st t2 a1, b1⟩
end CK
/-! ===== locals ===== -/
def am_has (ad : Nat → Nat) (ls : Array Slot) (n : Nat) (lo : List Value) : Prop := ls.size = n ∧ lv_wf ls ∧ (∀ (k : Nat) (v : Value), am_nth lo k = v → v ≠ .null → ls[k]? = some (.val (am_tr ad v))) ∧ lo.length = n
/-- as the kit writes them -/
def am_prs (ad : Nat → Nat) (lo : List Value) : List (Nat × Value) := (List.range lo.length).filterMap fun k => if am_nth lo k = .null then none else some (k, am_tr ad (am_nth lo k))
theorem am_nth_ge : ∀ (lo : List Value) (k : Nat), lo.length ≤ k → am_nth lo k = .null
  | [], _, _ => rfl
  | _ :: _, 0, h => absurd h (by simp)
  | _ :: lo, k + 1, h => am_nth_ge lo k (by simpa using h)
theorem am_prs_in {ad : Nat → Nat} {lo : List Value} {q : Nat × Value} (h : q ∈ am_prs ad lo) : am_nth lo q.1 ≠ .null ∧ q.2 = am_tr ad (am_nth lo q.1) := by
  obtain ⟨k, -, hk⟩ := List.mem_filterMap.mp h
  by_cases hn : am_nth lo k = .null
  · rw [if_pos hn] at hk; cases hk
  · rw [if_neg hn] at hk; cases hk; exact ⟨hn, rfl⟩
theorem am_prs_of {ad : Nat → Nat} {lo : List Value} {k : Nat} (h : am_nth lo k ≠ .null) : (k, am_tr ad (am_nth lo k)) ∈ am_prs ad lo := by
  refine List.mem_filterMap.mpr ⟨k, List.mem_range.mpr ?_, by rw [if_neg h]⟩
  rcases Nat.lt_or_ge k lo.length with q | q
  · exact q
  · exact absurd (am_nth_ge lo k q) h
theorem am_has.lv {ad : Nat → Nat} {ls : Array Slot} {n : Nat} {lo : List Value} (h : am_has ad ls n lo) : lv_has ls n (am_prs ad lo) :=
  ⟨h.1, h.2.1, fun q hq => by
    obtain ⟨h1, h2⟩ := am_prs_in hq
    rw [h2]
    exact h.2.2.1 q.1 _ rfl h1⟩
theorem am_has.at {ad : Nat → Nat} {ls : Array Slot} {n : Nat} {lo : List Value} {k : Nat} {v : Value} (h : am_has ad ls n lo) (e : am_nth lo k = v) (hv : v ≠ .null) : ls[k]? = some (.val (am_tr ad v)) := h.2.2.1 k v e hv
theorem am_has.ag {ad ad' : Nat → Nat} {ls : Array Slot} {n N : Nat} {lo : List Value} (h : am_has ad ls n lo) (g : am_ag N ad ad') (hk : am_okl N lo = true) : am_has ad' ls n lo := by
  refine ⟨h.1, h.2.1, fun k v e hv => ?_, h.2.2.2⟩
  have h1 := h.2.2.1 k v e hv
  have key : ∀ (lo : List Value), am_okl N lo = true → ∀ (k r : Nat), am_nth lo k = .ref r → r < N ∨ 2000000 ≤ r := by
    intro lo
    induction lo with
    | nil => intro _ k r h; cases h
    | cons a lo ih =>
      intro hk k r h
      have hl : am_okl N lo = true := by
        cases a <;> simp only [am_okl, Bool.and_eq_true] at hk <;> first | exact hk | exact hk.2
      cases k with
      | zero =>
        have h : a = .ref r := h
        subst h
        simp only [am_okl, Bool.and_eq_true, Bool.or_eq_true] at hk
        exact hk.1.elim (fun q => Or.inl (by simpa [Nat.blt_eq] using q)) (fun q => Or.inr (Nat.le_of_ble_eq_true q))
      | succ k => exact ih hl k r h
  cases v with
  | ref r =>
    rw [h1]
    show some (Slot.val (.ref (ad r))) = some (Slot.val (.ref (ad' r)))
    rw [g r (key lo hk k r e)]
  | _ => exact h1
theorem am_okl_tr {ad ad' : Nat → Nat} {N : Nat} (g : am_ag N ad ad') : ∀ (st : List Value), am_okl N st = true → st.map (am_tr ad') = st.map (am_tr ad)
  | [], _ => rfl
  | v :: st, hk => by
    have hl : am_okl N st = true := by
      cases v <;> simp only [am_okl, Bool.and_eq_true] at hk <;> first | exact hk | exact hk.2
    show am_tr ad' v :: st.map (am_tr ad') = am_tr ad v :: st.map (am_tr ad)
    rw [am_okl_tr g st hl]
    congr 1
    cases v with
    | ref r =>
      simp only [am_okl, Bool.and_eq_true, Bool.or_eq_true] at hk
      show Value.ref (ad' r) = Value.ref (ad r)
      rw [g r (hk.1.elim (fun q => Or.inl (by simpa [Nat.blt_eq] using q)) (fun q => Or.inr (Nat.le_of_ble_eq_true q)))]
    | _ => rfl
theorem am_k1_nth : ∀ (lo : List Value) (a k : Nat) (v : Value), am_nth (am_k1 lo a) k = v → v ≠ .null → am_nth lo k = v
  | [], _, _, _, h, _ => h
  | _ :: lo, 0, 0, v, h, hv => absurd h.symm hv
  | _ :: lo, 0, k + 1, v, h, _ => h
  | _ :: lo, a + 1, 0, v, h, _ => h
  | _ :: lo, a + 1, k + 1, v, h, hv => am_k1_nth lo a k v h hv
theorem am_k1_len : ∀ (lo : List Value) (a : Nat), (am_k1 lo a).length = lo.length
  | [], _ => rfl
  | _ :: _, 0 => rfl
  | _ :: lo, a + 1 => congrArg (· + 1) (am_k1_len lo a)
theorem am_s1_len : ∀ (lo : List Value) (i : Nat) (v : Value), (am_s1 lo i v).length = lo.length
  | [], _, _ => rfl
  | _ :: _, 0, _ => rfl
  | _ :: lo, 1, v => congrArg (· + 1) (am_s1_len lo 0 v)
  | _ :: lo, i + 2, v => congrArg (· + 1) (am_s1_len lo (i + 1) v)
theorem am_s2_len : ∀ (lo : List Value) (i : Nat) (v : Value), (am_s2 lo i v).length = lo.length
  | [], _, _ => rfl
  | [_], _, _ => rfl
  | _ :: _ :: _, 0, _ => rfl
  | _ :: b :: lo, 1, v => congrArg (· + 1) (am_s2_len (b :: lo) 0 v)
  | _ :: b :: lo, i + 2, v => congrArg (· + 1) (am_s2_len (b :: lo) (i + 1) v)
theorem am_has.k1 {ad : Nat → Nat} {ls : Array Slot} {n : Nat} {lo : List Value} (h : am_has ad ls n lo) (a : Nat) : am_has ad ls n (am_k1 lo a) :=
  ⟨h.1, h.2.1, fun k v e hv => h.2.2.1 k v (am_k1_nth lo a k v e hv) hv, (am_k1_len lo a).trans h.2.2.2⟩
theorem am_has.kl {ad : Nat → Nat} {ls : Array Slot} {n : Nat} : ∀ (ks : List Nat) {lo : List Value}, am_has ad ls n lo → am_has ad ls n (am_kl ks lo)
  | [], _, h => h
  | k :: ks, _, h => am_has.kl ks (h.k1 k)
theorem am_has.kil {ad : Nat → Nat} {ls : Array Slot} {n : Nat} {lo : List Value} (h : am_has ad ls n lo) (m i : Nat) : am_has ad ls n (am_kil m i lo) := by
  unfold am_kil
  cases pg_ct m i with
  | none => exact h
  | some ks => exact h.kl ks
theorem am_s1_nth : ∀ (lo : List Value) (i : Nat) (v0 : Value) (k : Nat) (v : Value), am_nth (am_s1 lo i v0) k = v → v ≠ .null → (k = i ∧ v = v0) ∨ (k ≠ i ∧ am_nth lo k = v ∧ ¬ (k + 1 = i ∧ v.category = 2))
  | [], _, _, _, _, h, hv => absurd h.symm hv
  | _ :: lo, 0, v0, 0, v, h, _ => Or.inl ⟨rfl, h.symm⟩
  | _ :: lo, 0, v0, k + 1, v, h, _ => Or.inr ⟨by omega, h, by omega⟩
  | a :: lo, 1, v0, 0, v, h, hv => by
    have h : am_un a = v := h
    cases a <;> first | exact absurd h.symm hv | (subst h; exact Or.inr ⟨by omega, rfl, fun q => by cases q.2⟩)
  | a :: lo, 1, v0, k + 1, v, h, hv => by
    rcases am_s1_nth lo 0 v0 k v h hv with ⟨h1, h2⟩ | ⟨h1, h2, h3⟩
    · exact Or.inl ⟨by omega, h2⟩
    · exact Or.inr ⟨by omega, h2, fun q => h3 ⟨by omega, q.2⟩⟩
  | a :: lo, i + 2, v0, 0, v, h, _ => Or.inr ⟨by omega, h, by omega⟩
  | a :: lo, i + 2, v0, k + 1, v, h, hv => by
    rcases am_s1_nth lo (i + 1) v0 k v h hv with ⟨h1, h2⟩ | ⟨h1, h2, h3⟩
    · exact Or.inl ⟨by omega, h2⟩
    · exact Or.inr ⟨by omega, h2, fun q => h3 ⟨by omega, q.2⟩⟩
theorem am_s2_nth : ∀ (lo : List Value) (i : Nat) (v0 : Value) (k : Nat) (v : Value), am_nth (am_s2 lo i v0) k = v → v ≠ .null → i + 1 < lo.length → (k = i ∧ v = v0) ∨ (k ≠ i ∧ k ≠ i + 1 ∧ am_nth lo k = v ∧ ¬ (k + 1 = i ∧ v.category = 2))
  | [], _, _, _, _, _, _, hl => absurd hl (by simp)
  | [a], i, _, _, _, _, _, hl => absurd hl (by simp)
  | _ :: _ :: lo, 0, v0, 0, v, h, _, _ => Or.inl ⟨rfl, h.symm⟩
  | _ :: _ :: lo, 0, v0, 1, v, h, hv, _ => absurd h.symm hv
  | _ :: _ :: lo, 0, v0, k + 2, v, h, _, _ => Or.inr ⟨by omega, by omega, h, by omega⟩
  | a :: b :: lo, 1, v0, 0, v, h, hv, _ => by
    have h : am_un a = v := h
    cases a <;> first | exact absurd h.symm hv | (subst h; exact Or.inr ⟨by omega, by omega, rfl, fun q => by cases q.2⟩)
  | a :: b :: lo, 1, v0, k + 1, v, h, hv, hl => by
    rcases am_s2_nth (b :: lo) 0 v0 k v h hv (by simpa using hl) with ⟨h1, h2⟩ | ⟨h1, h4, h2, h3⟩
    · exact Or.inl ⟨by omega, h2⟩
    · exact Or.inr ⟨by omega, by omega, h2, fun q => h3 ⟨by omega, q.2⟩⟩
  | a :: b :: lo, i + 2, v0, 0, v, h, _, _ => Or.inr ⟨by omega, by omega, h, by omega⟩
  | a :: b :: lo, i + 2, v0, k + 1, v, h, hv, hl => by
    rcases am_s2_nth (b :: lo) (i + 1) v0 k v h hv (by simp only [List.length_cons] at hl ⊢; omega) with ⟨h1, h2⟩ | ⟨h1, h4, h2, h3⟩
    · exact Or.inl ⟨by omega, h2⟩
    · exact Or.inr ⟨by omega, by omega, h2, fun q => h3 ⟨by omega, q.2⟩⟩
/-- behind a store of one place -/
theorem am_has.s1 {ad : Nat → Nat} {ls' : Array Slot} {n i : Nat} {lo : List Value} {v0 : Value} (hlen : lo.length = n) (h' : lv_has ls' n ((i, am_tr ad v0) :: (am_prs ad lo).filter (fun q => !(q.1 == i) && !(q.1 + 1 == i && q.2.category == 2)))) : am_has ad ls' n (am_s1 lo i v0) := by
  refine ⟨h'.1, h'.2.1, fun k v e hv => ?_, (am_s1_len _ _ _).trans hlen⟩
  rcases am_s1_nth lo i v0 k v e hv with ⟨h1, h2⟩ | ⟨h1, h2, h3⟩
  · rw [h1, h2]; exact h'.2.2 _ List.mem_cons_self
  · have hm := am_prs_of (ad := ad) (lo := lo) (k := k) (by rw [h2]; exact hv)
    rw [h2] at hm
    refine h'.2.2 (k, am_tr ad v) (List.mem_cons_of_mem _ (List.mem_filter.mpr ⟨hm, ?_⟩))
    rw [am_tr_cat]
    have e1 : (k == i) = false := by simpa using h1
    show (!(k == i) && !(k + 1 == i && v.category == 2)) = true
    rw [e1]
    by_cases hx : k + 1 = i ∧ v.category = 2
    · exact absurd hx h3
    · simp only [Bool.not_false, Bool.true_and, Bool.not_eq_true', Bool.and_eq_false_iff, beq_eq_false_iff_ne]
      by_cases hy : k + 1 = i
      · exact Or.inr fun z => hx ⟨hy, z⟩
      · exact Or.inl hy
theorem am_has.s2 {ad : Nat → Nat} {ls' : Array Slot} {n i : Nat} {lo : List Value} {v0 : Value} (hlen : lo.length = n) (hl : i + 1 < lo.length) (h' : lv_has ls' n ((i, am_tr ad v0) :: (am_prs ad lo).filter (fun q => !(q.1 == i) && (!(q.1 == i + 1) && !(q.1 + 1 == i && q.2.category == 2))))) : am_has ad ls' n (am_s2 lo i v0) := by
  refine ⟨h'.1, h'.2.1, fun k v e hv => ?_, (am_s2_len _ _ _).trans hlen⟩
  rcases am_s2_nth lo i v0 k v e hv hl with ⟨h1, h2⟩ | ⟨h1, h4, h2, h3⟩
  · rw [h1, h2]; exact h'.2.2 _ List.mem_cons_self
  · have hm := am_prs_of (ad := ad) (lo := lo) (k := k) (by rw [h2]; exact hv)
    rw [h2] at hm
    refine h'.2.2 (k, am_tr ad v) (List.mem_cons_of_mem _ (List.mem_filter.mpr ⟨hm, ?_⟩))
    rw [am_tr_cat]
    have e1 : (k == i) = false := by simpa using h1
    have e2 : (k == i + 1) = false := by simpa using h4
    show (!(k == i) && (!(k == i + 1) && !(k + 1 == i && v.category == 2))) = true
    rw [e1, e2]
    by_cases hx : k + 1 = i ∧ v.category = 2
    · exact absurd hx h3
    · simp only [Bool.not_false, Bool.true_and, Bool.not_eq_true', Bool.and_eq_false_iff, beq_eq_false_iff_ne]
      by_cases hy : k + 1 = i
      · exact Or.inr fun z => hx ⟨hy, z⟩
      · exact Or.inl hy
