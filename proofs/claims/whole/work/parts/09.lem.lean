/-! ===== writes, as the world sees them ===== -/
theorem am_noh {P : Prop} {r : Option Value × am_S} (h : (none : am_R) = some r) : P := by cases h
theorem am_c_pi (S : am_S) (a k : Nat) (v : Int32) : am_c (am_pi S a k v) = am_c S := rfl
theorem am_ce_pi {dA : Nat → ClassId} {ad : Nat → Nat} {S : am_S} {a k q : Nat} {v : Int32} (h : q ≠ a) : am_ce dA ad (am_pi S a k v) q = am_ce dA ad S q :=
  am_ce_eq rfl rfl (am_up_n h) rfl rfl
theorem am_ce_pj {dA : Nat → ClassId} {ad : Nat → Nat} {S : am_S} {a k q : Nat} {v : Int64} (h : q ≠ a) : am_ce dA ad (am_pj S a k v) q = am_ce dA ad S q :=
  am_ce_eq rfl rfl rfl (am_up_n h) rfl
theorem am_ce_pr {dA : Nat → ClassId} {ad : Nat → Nat} {S : am_S} {a k q v : Nat} (h : q ≠ a) : am_ce dA ad (am_pr S a k v) q = am_ce dA ad S q :=
  am_ce_eq rfl rfl rfl rfl (am_up_n h)
theorem am_i_pi (S : am_S) (a k : Nat) (v : Int32) : am_i (am_pi S a k v) a = am_up (am_i S a) k v := am_up_s
theorem am_j_pj (S : am_S) (a k : Nat) (v : Int64) : am_j (am_pj S a k v) a = am_up (am_j S a) k v := am_up_s
theorem am_r_pr (S : am_S) (a k v : Nat) : am_r (am_pr S a k v) a = am_up (am_r S a) k (some v) := am_up_s
theorem am_wd_pi_o {dA : Nat → ClassId} {ad : Nat → Nat} {S : am_S} {a c j t : Nat} {x : Int32} (hc : am_c S a = c) (h13 : c < 100) (ht : (am_ft c)[j]? = some t) (ht0 : t = 0 ∨ t = 3) :
    (am_wd dA ad S).set a (ad a, .inr (c, (am_fs ad S a (am_ft c) 0).set j (.int x))) = am_wd dA ad (am_pi S a j x) := by
  refine am_wd_set rfl (fun k hk => am_ce_pi hk) ?_
  rw [am_ce_o (S := am_pi S a j x) (c := c) hc h13]
  congr 2
  refine am_fs_set (j0 := 0) (am_ft c) 0 j t ht ?_ (fun i t' hi => ?_)
  · rcases ht0 with rfl | rfl <;> (show Value.int (am_i (am_pi S a j x) a (0 + j)) = .int x; rw [am_i_pi, Nat.zero_add, am_up_s])
  · unfold am_fv
    rw [am_i_pi, am_up_n (by omega)]
    rfl
theorem am_wd_pj_o {dA : Nat → ClassId} {ad : Nat → Nat} {S : am_S} {a c j : Nat} {x : Int64} (hc : am_c S a = c) (h13 : c < 100) (ht : (am_ft c)[j]? = some 1) :
    (am_wd dA ad S).set a (ad a, .inr (c, (am_fs ad S a (am_ft c) 0).set j (.long x))) = am_wd dA ad (am_pj S a j x) := by
  refine am_wd_set rfl (fun k hk => am_ce_pj hk) ?_
  rw [am_ce_o (S := am_pj S a j x) (c := c) hc h13]
  congr 2
  refine am_fs_set (j0 := 0) (am_ft c) 0 j 1 ht ?_ (fun i t' hi => ?_)
  · show Value.long (am_j (am_pj S a j x) a (0 + j)) = .long x
    rw [am_j_pj, Nat.zero_add, am_up_s]
  · unfold am_fv
    rw [am_j_pj, am_up_n (by omega)]
    rfl
theorem am_wd_pr_o {dA : Nat → ClassId} {ad : Nat → Nat} {S : am_S} {a c j x : Nat} (hc : am_c S a = c) (h13 : c < 100) (ht : (am_ft c)[j]? = some 2) :
    (am_wd dA ad S).set a (ad a, .inr (c, (am_fs ad S a (am_ft c) 0).set j (.ref (ad x)))) = am_wd dA ad (am_pr S a j x) := by
  refine am_wd_set rfl (fun k hk => am_ce_pr hk) ?_
  rw [am_ce_o (S := am_pr S a j x) (c := c) hc h13]
  congr 2
  refine am_fs_set (j0 := 0) (am_ft c) 0 j 2 ht ?_ (fun i t' hi => ?_)
  · show va_rf ((am_r (am_pr S a j x) a (0 + j)).map ad) = .ref (ad x)
    rw [am_r_pr, Nat.zero_add, am_up_s]
    rfl
  · unfold am_fv
    rw [am_r_pr, am_up_n (by omega)]
    rfl
theorem am_wd_pi_a {dA : Nat → ClassId} {ad : Nat → Nat} {S : am_S} {a c k : Nat} {x : Int32} (hc : am_c S a = c) (h1 : ¬ c < 100) (h2 : c < 102) :
    (am_wd dA ad S).set a (ad a, .inl (dA c, am_l S a, .inl (upd (am_i S a) k x))) = am_wd dA ad (am_pi S a k x) := by
  refine am_wd_set rfl (fun k hk => am_ce_pi hk) ?_
  rw [am_ce_a (S := am_pi S a k x) (c := c) hc h1, am_ac_i (S := am_pi S a k x) (c := c) hc h2, am_i_pi]
  rfl
theorem am_wd_pj_a {dA : Nat → ClassId} {ad : Nat → Nat} {S : am_S} {a k : Nat} {x : Int64} (hc : am_c S a = 102) :
    (am_wd dA ad S).set a (ad a, .inl (dA 102, am_l S a, .inr (.inl (vp_updL (am_j S a) k x)))) = am_wd dA ad (am_pj S a k x) := by
  refine am_wd_set rfl (fun k hk => am_ce_pj hk) ?_
  rw [am_ce_a (S := am_pj S a k x) (c := 102) hc (by decide), am_ac_j (S := am_pj S a k x) hc, am_j_pj]
  rfl
theorem am_wd_pr_a {dA : Nat → ClassId} {ad : Nat → Nat} {S : am_S} {a c k x : Nat} (hc : am_c S a = c) (h1 : 102 < c) :
    (am_wd dA ad S).set a (ad a, .inl (dA c, am_l S a, .inr (.inr (.inr (.inr (va_up (fun j => (am_r S a j).map ad) k (some (ad x)))))))) = am_wd dA ad (am_pr S a k x) := by
  refine am_wd_set rfl (fun k hk => am_ce_pr hk) ?_
  rw [am_ce_a (S := am_pr S a k x) (c := c) hc (by omega), am_ac_r (S := am_pr S a k x) (c := c) hc h1, am_r_pr]
  show (Sum.inl (dA c, am_l S a, _) : va_E) = Sum.inl (dA c, am_l S a, _)
  congr 7
  funext j
  unfold am_up va_up
  by_cases h : j = k
  · rw [if_pos h, if_pos h]; rfl
  · rw [if_neg h, if_neg h]
theorem am_wd_cp {dA : Nat → ClassId} {ad : Nat → Nat} {S : am_S} {a b sp dp n : Nat} (hc : am_c S b = 100) :
    (am_wd dA ad S).set b (ad b, .inl (dA 100, am_l S b, .inl (va_cpy (am_i S a) (am_i S b) sp dp n))) = am_wd dA ad (am_cp S a b sp dp n) := by
  refine am_wd_set rfl (fun k hk => am_ce_eq rfl rfl (am_up_n hk) rfl rfl) ?_
  rw [am_ce_a (S := am_cp S a b sp dp n) (c := 100) hc (by decide), am_ac_i (S := am_cp S a b sp dp n) (c := 100) hc (by decide)]
  show (Sum.inl (dA 100, am_l S b, Sum.inl (am_up (am_i S) b _ b)) : va_E) = _
  rw [am_up_s]
/-! ===== what holds of the numbers goes on holding ===== -/
theorem am_Iv.wi {L : Nat} {xs : Nat → Int32} {S : am_S} {a : Nat} {g : Nat → Int32} (h : am_Iv L xs S) (ha : am_c S a < 900) : am_Iv L xs (am_wi S a g) := by
  obtain ⟨h1, h2, h3, h4, h5, h6, h7, h8, h9⟩ := h
  have hlt : a < 1200 := by have := (h1 a ha).1; omega
  refine ⟨h1, h2, h3, fun j hj k hk => ?_, fun j hj => ?_, fun i hi k hk => ?_, fun i hi => ?_, h8, h9⟩
  · show am_up (am_i S) a g _ _ = _
    rw [am_up_n (by omega)]; exact h4 j hj k hk
  · show am_up (am_i S) a g _ _ = _
    rw [am_up_n (by omega)]; exact h5 j hj
  · show am_up (am_i S) a g _ _ = _
    rw [am_up_n (by omega)]; exact h6 i hi k hk
  · show am_up (am_i S) a g _ _ = _
    rw [am_up_n (by omega)]; exact h7 i hi
theorem am_Iv.pi {L : Nat} {xs : Nat → Int32} {S : am_S} {a k : Nat} {v : Int32} (h : am_Iv L xs S) (ha : am_c S a < 900) : am_Iv L xs (am_pi S a k v) := h.wi ha
theorem am_Iv.pj {L : Nat} {xs : Nat → Int32} {S : am_S} {a k : Nat} {v : Int64} (h : am_Iv L xs S) : am_Iv L xs (am_pj S a k v) := h
theorem am_Iv.pr {L : Nat} {xs : Nat → Int32} {S : am_S} {a k v : Nat} (h : am_Iv L xs S) (hv : v < am_n S) : am_Iv L xs (am_pr S a k v) := by
  obtain ⟨h1, h2, h3, h4, h5, h6, h7, h8, h9⟩ := h
  refine ⟨h1, h2, h3, h4, h5, h6, h7, fun b j r hr => ?_, h9⟩
  have hr : am_up (am_r S) a (am_up (am_r S a) k (some v)) b j = some r := hr
  by_cases hb : b = a
  · subst hb
    rw [am_up_s] at hr
    by_cases hj : j = k
    · subst hj
      rw [am_up_s] at hr
      cases hr
      exact hv
    · rw [am_up_n hj] at hr
      exact h8 _ _ _ hr
  · rw [am_up_n hb] at hr
    exact h8 _ _ _ hr
theorem am_Iv.mk {L : Nat} {xs : Nat → Int32} {S : am_S} {c n : Nat} (h : am_Iv L xs S) (hc : am_vk c) (hn : am_n S < 1199) : am_Iv L xs (am_mk S c n) := by
  obtain ⟨h1, h2, h3, h4, h5, h6, h7, h8, h9⟩ := h
  have hc900 : c < 900 := by unfold am_vk at hc; omega
  have hup : ∀ {α : Type} (f : Nat → α) (v : α) (q : Nat), 2000000 ≤ q → am_up f (am_n S) v q = f q := fun f v q hq => am_up_n (by omega)
  refine ⟨fun a ha => ?_, fun a ha => ?_, fun a ha => ?_, fun j hj k hk => ?_, fun j hj => ?_, fun i hi k hk => ?_, fun i hi => ?_, fun a j r hr => ?_, by show am_n S + 1 < 1200; omega⟩
  · by_cases e : a = am_n S
    · subst e
      exact ⟨by show am_n S < am_n S + 1; omega, by show am_vk (am_up (am_c S) _ c _); rw [am_up_s]; exact hc⟩
    · have ha' : am_up (am_c S) (am_n S) c a < 900 := ha
      rw [am_up_n e] at ha'
      refine ⟨Nat.lt_succ_of_lt (h1 a ha').1, ?_⟩
      show am_vk (am_up (am_c S) (am_n S) c a)
      rw [am_up_n e]
      exact (h1 a ha').2
  · have ha' : am_up (am_c S) (am_n S) c a = 997 := ha
    by_cases e : a = am_n S
    · subst e; rw [am_up_s] at ha'; omega
    · rw [am_up_n e] at ha'; exact h2 a ha'
  · have ha' : am_up (am_c S) (am_n S) c a = 998 := ha
    by_cases e : a = am_n S
    · subst e; rw [am_up_s] at ha'; omega
    · rw [am_up_n e] at ha'; exact h3 a ha'
  · show am_up (am_i S) (am_n S) (fun _ => 0) _ _ = _
    rw [hup _ _ _ (by omega)]; exact h4 j hj k hk
  · show am_up (am_i S) (am_n S) (fun _ => 0) _ _ = _
    rw [hup _ _ _ (by omega)]; exact h5 j hj
  · show am_up (am_i S) (am_n S) (fun _ => 0) _ _ = _
    rw [hup _ _ _ (by omega)]; exact h6 i hi k hk
  · show am_up (am_i S) (am_n S) (fun _ => 0) _ _ = _
    rw [hup _ _ _ (by omega)]; exact h7 i hi
  · have hr' : am_up (am_r S) (am_n S) (fun _ => none) a j = some r := hr
    by_cases e : a = am_n S
    · subst e; rw [am_up_s] at hr'; cases hr'
    · rw [am_up_n e] at hr'; exact Nat.lt_succ_of_lt (h8 _ _ _ hr')
/-- a new cell, at an address q -/
theorem am_ag.up {n : Nat} {ad : Nat → Nat} {q : Nat} (hn : n < 2000000) : am_ag n ad (am_up ad n q) := fun k hk => am_up_n (by omega)
theorem am_fs_ag {ad ad' : Nat → Nat} {S : am_S} {a : Nat} (h : ∀ j r, am_r S a j = some r → ad' r = ad r) : ∀ (ts : List Nat) (j : Nat), am_fs ad' S a ts j = am_fs ad S a ts j
  | [], _ => rfl
  | t :: ts, j => by
    show am_fv ad' S a t j :: am_fs ad' S a ts (j + 1) = am_fv ad S a t j :: am_fs ad S a ts (j + 1)
    rw [am_fs_ag h ts (j + 1)]
    congr 1
    unfold am_fv
    split
    · rfl
    · cases hr : am_r S a j with
      | none => rfl
      | some r => show va_rf (some (ad' r)) = va_rf (some (ad r)); rw [h j r hr]
    · rfl
theorem am_ce_ag {dA : Nat → ClassId} {ad ad' : Nat → Nat} {S : am_S} {a : Nat} (h : ∀ j r, am_r S a j = some r → ad' r = ad r) : am_ce dA ad' S a = am_ce dA ad S a := by
  unfold am_ce am_ac
  rw [am_fs_ag h]
  rw [show (fun j => (am_r S a j).map ad') = fun j => (am_r S a j).map ad from funext fun j => by
    cases hr : am_r S a j with
    | none => rfl
    | some r => show some (ad' r) = some (ad r); rw [h j r hr]]
theorem am_wd_ag {dA : Nat → ClassId} {ad ad' : Nat → Nat} {S : am_S} (g : am_ag (am_n S) ad ad') (h : ∀ a j r, am_r S a j = some r → r < am_n S) : am_wd dA ad' S = am_wd dA ad S := by
  unfold am_wd
  apply List.map_congr_left
  intro k hk
  rw [g k (Or.inl (List.mem_range.mp hk)), am_ce_ag fun j r hr => g r (Or.inl (h k j r hr))]
theorem am_wd_mk {dA : Nat → ClassId} {ad ad' : Nat → Nat} {S : am_S} {c n : Nat} (g : am_ag (am_n S) ad ad') (h : ∀ a j r, am_r S a j = some r → r < am_n S) :
    am_wd dA ad' (am_mk S c n) = am_wd dA ad S ++ [(ad' (am_n S), am_ce dA ad' (am_mk S c n) (am_n S))] := by
  have e : am_wd dA ad S = (List.range (am_n S)).map fun k => (ad' k, am_ce dA ad' (am_mk S c n) k) := by
    unfold am_wd
    apply List.map_congr_left
    intro k hk
    have hk := List.mem_range.mp hk
    have hne : k ≠ am_n S := by omega
    rw [g k (Or.inl hk)]
    congr 1
    rw [← am_ce_ag (ad := ad) (ad' := ad') (S := S) fun j r hr => g r (Or.inl (h k j r hr))]
    exact (am_ce_eq (S := S) (S' := am_mk S c n) (am_up_n hne) (am_up_n hne) (am_up_n hne) (am_up_n hne) (am_up_n hne)).symm
  rw [e]
  unfold am_wd
  show (List.range (am_n S + 1)).map _ = _
  rw [List.range_succ, List.map_append]
  rfl
theorem am_fs_new {ad : Nat → Nat} {S : am_S} {a : Nat} (hi : am_i S a = fun _ => 0) (hj : am_j S a = fun _ => 0) (hr : am_r S a = fun _ => none) : ∀ (ts : List Nat) (j k : Nat) (t : Nat), ts[k]? = some t → (am_fs ad S a ts j)[k]? = some (match t with | 1 => .long 0 | 2 => .null | _ => .int 0)
  | [], _, _, _, h => by simp at h
  | t0 :: ts, j, 0, t, h => by
    simp only [List.getElem?_cons_zero, Option.some.injEq] at h
    subst h
    show some (am_fv ad S a t0 j) = _
    rcases t0 with _ | _ | _ | t0
    · show some (Value.int (am_i S a j)) = _
      rw [hi]
      rfl
    · show some (Value.long (am_j S a j)) = _
      rw [hj]
      rfl
    · show some (va_rf ((am_r S a j).map ad)) = _
      rw [hr]
      rfl
    · show some (Value.int (am_i S a j)) = _
      rw [hi]
      rfl
  | t0 :: ts, j, k + 1, t, h => by
    simp only [List.getElem?_cons_succ] at h
    exact am_fs_new hi hj hr ts (j + 1) k t h
theorem am_dflt : ∀ c, c < 13 → ∀ k, k < am_N c → defaultValue (am_ty c k) = (match (am_ft c).getD k 9 with | 1 => .long 0 | 2 => .null | _ => .int 0) := by decide +kernel
theorem am_mk_i (S : am_S) (c n : Nat) : am_i (am_mk S c n) (am_n S) = fun _ => 0 := am_up_s
theorem am_mk_j (S : am_S) (c n : Nat) : am_j (am_mk S c n) (am_n S) = fun _ => 0 := am_up_s
theorem am_mk_r (S : am_S) (c n : Nat) : am_r (am_mk S c n) (am_n S) = fun _ => none := am_up_s
theorem am_mk_c (S : am_S) (c n : Nat) : am_c (am_mk S c n) (am_n S) = c := am_up_s
theorem am_mk_l (S : am_S) (c n : Nat) : am_l (am_mk S c n) (am_n S) = n := am_up_s
/-! ===== numbers ===== -/
theorem am_of1 {v : Int} (h : 0 ≤ v) : Int32.ofInt v = nI v.toNat := by
  obtain ⟨n, rfl⟩ := Int.eq_ofNat_of_zero_le h
  rfl
theorem am_of1L {v : Int} (h : 0 ≤ v) : Int64.ofInt v = lN v.toNat := by
  obtain ⟨n, rfl⟩ := Int.eq_ofNat_of_zero_le h
  rfl
theorem am_of8 {v : Int} (h1 : -129 < v) (h2 : v < 128) : (Int8.ofInt v).toInt32 = Int32.ofInt v := by
  apply Int32.toInt_inj.mp
  rw [Int8.toInt_toInt32, Int8.toInt_ofInt, Int32.toInt_ofInt, Int.bmod_eq_of_le (by have : (Int8.size : Int) = 256 := rfl; omega) (by have : (Int8.size : Int) = 256 := rfl; omega), Int.bmod_eq_of_le (by have : (Int32.size : Int) = 4294967296 := rfl; omega) (by have : (Int32.size : Int) = 4294967296 := rfl; omega)]
theorem am_of16 {v : Int} (h1 : -32769 < v) (h2 : v < 32768) : (Int16.ofInt v).toInt32 = Int32.ofInt v := by
  apply Int32.toInt_inj.mp
  rw [Int16.toInt_toInt32, Int16.toInt_ofInt, Int32.toInt_ofInt, Int.bmod_eq_of_le (by have : (Int16.size : Int) = 65536 := rfl; omega) (by have : (Int16.size : Int) = 65536 := rfl; omega), Int.bmod_eq_of_le (by have : (Int32.size : Int) = 4294967296 := rfl; omega) (by have : (Int32.size : Int) = 4294967296 := rfl; omega)]
theorem am_inc_eq (x : Int32) (c : Int) : x + Int32.ofInt c = am_inc x c := by
  cases c with
  | ofNat k => rfl
  | negSucc k =>
    show x + Int32.ofInt (Int.negSucc k) = x - nI (k + 1)
    rw [show (Int.negSucc k) = -((k + 1 : Nat) : Int) from rfl, Int32.ofInt_neg, Int32.sub_eq_add_neg]
    rfl
theorem lk_g_4 : ∀ q ∈ lk_g, q.2.2 < 4 := by decide +kernel
theorem am_xl_lt {L j : Nat} (h : L < 2 ^ 31) : am_xl L j < 2 ^ 31 := by
  unfold am_xl
  split <;> omega
theorem am_uw_good {C : String} {T : u_T} {N : Nat} : ∀ w ∈ u_ws C T N, goodWord w = true := by
  intro w hw
  obtain ⟨k, -, rfl⟩ := List.mem_map.mp hw
  unfold u_lay
  split <;> rfl
set_option maxRecDepth 100000 in
theorem am_instn_0 : ∀ w ∈ [Cond.instantiable RX0 6, Cond.initialized RX0], w ∈ lw_tbl := lk_sub [475, 110] rfl
set_option maxRecDepth 100000 in
theorem am_instn_1 : ∀ w ∈ [Cond.instantiable RX1 5, Cond.initialized RX1], w ∈ lw_tbl := lk_sub [266, 104] rfl
set_option maxRecDepth 100000 in
theorem am_instn_2 : ∀ w ∈ [Cond.instantiable RX2 3, Cond.initialized RX2], w ∈ lw_tbl := lk_sub [242, 103] rfl
set_option maxRecDepth 100000 in
theorem am_instn_3 : ∀ w ∈ [Cond.instantiable RX3 5, Cond.initialized RX3], w ∈ lw_tbl := lk_sub [142, 101] rfl
set_option maxRecDepth 100000 in
theorem am_instn_4 : ∀ w ∈ [Cond.instantiable RX4 7, Cond.initialized RX4], w ∈ lw_tbl := lk_sub [442, 109] rfl
set_option maxRecDepth 100000 in
theorem am_instn_5 : ∀ w ∈ [Cond.instantiable RX5 2, Cond.initialized RX5], w ∈ lw_tbl := lk_sub [400, 106] rfl
set_option maxRecDepth 100000 in
theorem am_instn_6 : ∀ w ∈ [Cond.instantiable RX6 3, Cond.initialized RX6], w ∈ lw_tbl := lk_sub [425, 108] rfl
set_option maxRecDepth 100000 in
theorem am_instn_7 : ∀ w ∈ [Cond.instantiable RX7 12, Cond.initialized RX7], w ∈ lw_tbl := lk_sub [166, 102] rfl
set_option maxRecDepth 100000 in
theorem am_instn_8 : ∀ w ∈ [Cond.instantiable RX8 1, Cond.initialized RX8], w ∈ lw_tbl := lk_sub [415, 107] rfl
set_option maxRecDepth 100000 in
theorem am_instn_9 : ∀ w ∈ [Cond.instantiable RX9 4, Cond.initialized RX9], w ∈ lw_tbl := lk_sub [301, 105] rfl
set_option maxRecDepth 100000 in
theorem am_instn_10 : ∀ w ∈ [Cond.instantiable RX10 15, Cond.initialized RX10], w ∈ lw_tbl := lk_sub [128, 100] rfl
set_option maxRecDepth 100000 in
theorem am_instn_11 : ∀ w ∈ [Cond.instantiable RX11 19, Cond.initialized RX11], w ∈ lw_tbl := lk_sub [120, 99] rfl
set_option maxRecDepth 100000 in
theorem am_instn_12 : ∀ w ∈ [Cond.instantiable RX12 37, Cond.initialized RX12], w ∈ lw_tbl := lk_sub [1210, 111] rfl
theorem am_instn : ∀ c, c < 13 → Cond.instantiable (am_on c) (am_N c) ∈ lw_tbl ∧ Cond.initialized (am_on c) ∈ lw_tbl := by
  intro c hc
  match c, hc with
  | 0, _ => exact ⟨am_instn_0 _ List.mem_cons_self, am_instn_0 _ (List.mem_cons_of_mem _ List.mem_cons_self)⟩
  | 1, _ => exact ⟨am_instn_1 _ List.mem_cons_self, am_instn_1 _ (List.mem_cons_of_mem _ List.mem_cons_self)⟩
  | 2, _ => exact ⟨am_instn_2 _ List.mem_cons_self, am_instn_2 _ (List.mem_cons_of_mem _ List.mem_cons_self)⟩
  | 3, _ => exact ⟨am_instn_3 _ List.mem_cons_self, am_instn_3 _ (List.mem_cons_of_mem _ List.mem_cons_self)⟩
  | 4, _ => exact ⟨am_instn_4 _ List.mem_cons_self, am_instn_4 _ (List.mem_cons_of_mem _ List.mem_cons_self)⟩
  | 5, _ => exact ⟨am_instn_5 _ List.mem_cons_self, am_instn_5 _ (List.mem_cons_of_mem _ List.mem_cons_self)⟩
  | 6, _ => exact ⟨am_instn_6 _ List.mem_cons_self, am_instn_6 _ (List.mem_cons_of_mem _ List.mem_cons_self)⟩
  | 7, _ => exact ⟨am_instn_7 _ List.mem_cons_self, am_instn_7 _ (List.mem_cons_of_mem _ List.mem_cons_self)⟩
  | 8, _ => exact ⟨am_instn_8 _ List.mem_cons_self, am_instn_8 _ (List.mem_cons_of_mem _ List.mem_cons_self)⟩
  | 9, _ => exact ⟨am_instn_9 _ List.mem_cons_self, am_instn_9 _ (List.mem_cons_of_mem _ List.mem_cons_self)⟩
  | 10, _ => exact ⟨am_instn_10 _ List.mem_cons_self, am_instn_10 _ (List.mem_cons_of_mem _ List.mem_cons_self)⟩
  | 11, _ => exact ⟨am_instn_11 _ List.mem_cons_self, am_instn_11 _ (List.mem_cons_of_mem _ List.mem_cons_self)⟩
  | 12, _ => exact ⟨am_instn_12 _ List.mem_cons_self, am_instn_12 _ (List.mem_cons_of_mem _ List.mem_cons_self)⟩
  | c + 13, h => exact absurd h (by omega)
theorem am_new_fs {c : Nat} (hc : c < 13) {S : am_S} {j : Nat} (hj : j < am_N c) : defaultValue (am_ty c j) = vp_V (am_fs (fun _ => 0) (am_mk S c (am_N c)) (am_n S) (am_ft c) 0) j := by
  have hlen : j < (am_ft c).length := by rw [am_ft_len c hc]; exact hj
  have h1 := am_fs_new (ad := fun _ => 0) (am_mk_i S c (am_N c)) (am_mk_j S c (am_N c)) (am_mk_r S c (am_N c)) (am_ft c) 0 j ((am_ft c).getD j 9) (by rw [List.getD_eq_getElem?_getD, List.getElem?_eq_getElem hlen]; rfl)
  unfold vp_V
  rw [List.getD_eq_getElem?_getD, h1, am_dflt c hc j hj]
  rfl
theorem am_gd_spec {S : am_S} {lo st : List Value} (h : am_gd S lo st = true) : am_n S < 1000 ∧ am_okl (am_n S) lo = true ∧ am_okl (am_n S) st = true := by
  unfold am_gd at h
  simp only [Bool.and_eq_true] at h
  exact ⟨by simpa [Nat.blt_eq] using h.1, h.2.1, h.2.2⟩
set_option maxRecDepth 100000 in
theorem am_w_ai : Cond.arrayClass .int ∈ lw_tbl := List.mem_of_getElem? (i := 165) rfl
set_option maxRecDepth 100000 in
theorem am_w_ab : Cond.arrayClass .byte ∈ lw_tbl := List.mem_of_getElem? (i := 473) rfl
set_option maxRecDepth 100000 in
theorem am_w_al : Cond.arrayClass .long ∈ lw_tbl := List.mem_of_getElem? (i := 413) rfl
set_option maxRecDepth 100000 in
theorem am_w_oi : Cond.instanceMethod objectInit ∈ lw_tbl := List.mem_of_getElem? (i := 125) rfl
set_option maxRecDepth 100000 in
theorem am_w_oc : Cond.code objectInit ⟨#[0xb1]⟩ 1 none ∈ lw_tbl := List.mem_of_getElem? (i := 126) rfl
set_option maxRecDepth 100000 in
theorem am_w_cn : Cond.native arraycopyName ∈ lw_tbl := List.mem_of_getElem? (i := 838) rfl
set_option maxRecDepth 100000 in
theorem am_w_cs : Cond.static arraycopyName ∈ lw_tbl := List.mem_of_getElem? (i := 837) rfl
set_option maxRecDepth 100000 in
theorem am_w_ci : Cond.initialized "java/lang/System" ∈ lw_tbl := List.mem_of_getElem? (i := 116) rfl
theorem am_cA_int {U : State} {a b : ClassId} (h1 : va_RA U a .int) (h2 : va_RA U b .int) : b = a := Option.some.inj (h2.symm.trans h1)
theorem am_cA_byte {U : State} {a b : ClassId} (h1 : va_RA U a .byte) (h2 : va_RA U b .byte) : b = a := Option.some.inj (h2.symm.trans h1)
theorem am_cA_long {U : State} {a b : ClassId} (h1 : va_RA U a .long) (h2 : va_RA U b .long) : b = a := Option.some.inj (h2.symm.trans h1)
theorem am_cA_obj {U : State} {a b : ClassId} {C : String} (h1 : va_RA U a (.object C)) (h2 : va_RA U b (.object C)) : b = a := by
  obtain ⟨_, _, -, -, -, e1⟩ := h1
  obtain ⟨_, _, -, -, -, e2⟩ := h2
  exact Option.some.inj (e2.symm.trans e1)
theorem am_sw_spec (x : Int32) {d : am_R} {K : Nat → am_R} {r : Option Value × am_S} : ∀ (ts : List Int) (lo : Nat), lo + ts.length < 100000 → am_sw x d K lo ts = some r →
    (∃ (j : Nat) (t : Int), ts[j]? = some t ∧ x = nI (lo + j) ∧ K t.toNat = some r) ∨ ((∀ j, j < ts.length → x ≠ nI (lo + j)) ∧ d = some r)
  | [], lo, _, h => Or.inr ⟨fun j hj => absurd hj (by simp), h⟩
  | t :: ts, lo, hl, h => by
    have h : (if x = nI lo then K t.toNat else am_sw x d K (lo + 1) ts) = some r := h
    by_cases hx : x = nI lo
    · rw [if_pos hx] at h
      exact Or.inl ⟨0, t, rfl, hx, h⟩
    · rw [if_neg hx] at h
      rcases am_sw_spec x ts (lo + 1) (by simp only [List.length_cons] at hl; omega) h with ⟨j, t', h1, h2, h3⟩ | ⟨h1, h2⟩
      · exact Or.inl ⟨j + 1, t', h1, by rw [h2, show lo + 1 + j = lo + (j + 1) by omega], h3⟩
      · refine Or.inr ⟨fun j hj => ?_, h2⟩
        cases j with
        | zero => exact hx
        | succ j =>
          have := h1 j (by simpa using hj)
          rw [show lo + 1 + j = lo + (j + 1) by omega] at this
          exact this
theorem am_lk_spec {y i : Nat} {dd : Int} (x : Int32) (d : am_R) (K : Nat → am_R) : ∀ (ps : List (Int × Int)), ps.all (fun t => decide (0 ≤ t.1 ∧ t.1 < 100000)) = true →
    ∃ tg : Nat, Op.lookupswitch.offset (ps.map fun t => (t.1, (am_P y t.2.toNat : Int) - am_P y i)) ((am_P y dd.toNat : Int) - am_P y i) x.toInt = (am_P y tg : Int) - am_P y i ∧ (d = K dd.toNat → am_lk x d K ps = K tg)
  | [], _ => ⟨dd.toNat, rfl, fun h => h⟩
  | t :: ps, h => by
    simp only [List.all_cons, Bool.and_eq_true, decide_eq_true_eq] at h
    obtain ⟨tg, h1, h2⟩ := am_lk_spec (y := y) (i := i) (dd := dd) x d K ps h.2
    by_cases hx : x = nI t.1.toNat
    · refine ⟨t.2.toNat, ?_, fun _ => ?_⟩
      · rw [List.map_cons, Op.lookupswitch.offset_cons, if_pos]
        rw [hx, nI_toInt (by omega)]
        omega
      · show (if x = nI t.1.toNat then _ else _) = _
        rw [if_pos hx]
    · refine ⟨tg, ?_, fun hd => ?_⟩
      · rw [List.map_cons, Op.lookupswitch.offset_cons, if_neg, h1]
        intro e
        apply hx
        apply Int32.toInt_inj.mp
        rw [nI_toInt (by omega)]
        omega
      · show (if x = nI t.1.toNat then _ else _) = _
        rw [if_neg hx]
        exact h2 hd
theorem am_sorted (ps : List (Int × Int)) (g : Int × Int → Int × Int) (hg : ∀ z, (g z).1 = z.1) (h : (ps.zip (ps.drop 1)).all (fun (a, next) => decide (a.1 < next.1)) = true) : ((ps.map g).zip ((ps.map g).drop 1)).all (fun (a, next) => a.1 < next.1) = true := by
  rw [← List.map_drop, List.zip_map, List.all_map]
  rw [List.all_eq_true] at h ⊢
  intro z hz
  have := h z hz
  simpa [hg] using this
def am_wsl : List Cond := .code ⟨"java/lang/String", "length", "()I"⟩ prog_17_method_54_code 1 (some .int) :: lw_gw
def am_wsc : List Cond := .code ⟨"java/lang/String", "charAt", "(I)C"⟩ prog_17_method_56_code 2 (some .char) :: lw_gw
/-- length() and charAt(k) of the texts -/
def am_Str (l : Launch) : Prop := ∀ (A : Nat → Prop) (ad adV : Nat → Nat) (L : Nat) (xs : Nat → Int32) (i : Nat), i < 12 →
  Met l ⟨"java/lang/String", "length", "()I"⟩ am_wsl { frames := 2, cells := 0, slots := 0, locals := 64 } (va_Pc [.ref (ad (4000000 + i))] (fun U => am_E A ad adV L xs U U.heap)) (fun _ st oc t => oc = .returned (some (.int (nI (am_sl.getD i 0)))) ∧ t.heap = st.heap) 0 0 A ∧
  ∀ k, k < am_sl.getD i 0 → Met l ⟨"java/lang/String", "charAt", "(I)C"⟩ am_wsc { frames := 6, cells := 0, slots := 0, locals := 256 } (va_Pc [.ref (ad (4000000 + i)), .int (nI k)] (fun U => am_E A ad adV L xs U U.heap)) (fun _ st oc t => oc = .returned (some (.int ((am_bt.getD i []).getD k 0))) ∧ t.heap = st.heap) 0 0 A
theorem am_sl_lt (i : Nat) : am_sl.getD i 0 < 2 ^ 31 := by
  have h : ∀ x ∈ am_sl, x < 2 ^ 31 := by decide +kernel
  rw [List.getD_eq_getElem?_getD]
  cases hi : am_sl[i]? with
  | none => decide
  | some x => exact h x (List.mem_of_getElem? hi)
theorem am_mem_lk {l : List (Nat × Nat × Nat)} {q : Nat × Nat × Nat} (h : l.contains q = true) : q ∈ l := by simpa using h
theorem am_bV_spec {o : am_R} {k : am_S → am_R} {r : Option Value × am_S} (h : am_bV o k = some r) : ∃ S', o = some (none, S') ∧ k S' = some r := by
  rcases o with _ | ⟨_ | v, S⟩
  · exact am_noh h
  · exact ⟨S, rfl, h⟩
  · exact am_noh h
theorem am_bI_spec {o : am_R} {k : Int32 → am_S → am_R} {r : Option Value × am_S} (h : am_bI o k = some r) : ∃ x S', o = some (some (.int x), S') ∧ k x S' = some r := by
  rcases o with _ | ⟨_ | v, S⟩
  · exact am_noh h
  · exact am_noh h
  · cases v <;> first | exact ⟨_, S, rfl, h⟩ | exact am_noh h
theorem am_bJ_spec {o : am_R} {k : Int64 → am_S → am_R} {r : Option Value × am_S} (h : am_bJ o k = some r) : ∃ x S', o = some (some (.long x), S') ∧ k x S' = some r := by
  rcases o with _ | ⟨_ | v, S⟩
  · exact am_noh h
  · exact am_noh h
  · cases v <;> first | exact ⟨_, S, rfl, h⟩ | exact am_noh h
theorem am_bA_spec {o : am_R} {k : Nat → am_S → am_R} {r : Option Value × am_S} (h : am_bA o k = some r) : ∃ x S', o = some (some (.ref x), S') ∧ k x S' = some r := by
  rcases o with _ | ⟨_ | v, S⟩
  · exact am_noh h
  · exact am_noh h
  · cases v <;> first | exact ⟨_, S, rfl, h⟩ | exact am_noh h
theorem am_ca_spec {o : am_R} {K : List Value → am_S → am_R} {rest : List Value} {q : Nat} {r : Option Value × am_S} (h : (match q with
      | 0 => am_bV o fun S => K rest S
      | 1 => am_bI o fun x S => K (.int x :: rest) S
      | 2 => am_bJ o fun x S => K (.long x :: rest) S
      | _ => am_bA o fun x S => K (.ref x :: rest) S) = some r) : ∃ v S', o = some (v, S') ∧ K (v.toList ++ rest) S' = some r := by
  rcases q with _ | _ | _ | q
  · obtain ⟨S', h1, h2⟩ := am_bV_spec h
    exact ⟨none, S', h1, h2⟩
  · obtain ⟨x, S', h1, h2⟩ := am_bI_spec h
    exact ⟨some (.int x), S', h1, h2⟩
  · obtain ⟨x, S', h1, h2⟩ := am_bJ_spec h
    exact ⟨some (.long x), S', h1, h2⟩
  · obtain ⟨x, S', h1, h2⟩ := am_bA_spec h
    exact ⟨some (.ref x), S', h1, h2⟩
theorem am_ans {n : Nat} {ad ad' : Nat → Nat} (hg : am_ag n ad ad') {v : Option Value} (hv : ∀ x, v = some (.ref x) → 2000000 ≤ x) (dr : List Value) : (v.map (am_tr ad')).toList ++ dr.map (am_tr ad) = (v.toList ++ dr).map (am_tr ad) := by
  rw [List.map_append]
  congr 1
  cases v with
  | none => rfl
  | some w =>
    cases w with
    | ref x =>
      show [Value.ref (ad' x)] = [Value.ref (ad x)]
      rw [hg x (Or.inr (hv x rfl))]
    | _ => rfl
theorem am_Eb {A : Nat → Prop} {ad adV : Nat → Nat} {L : Nat} {xs : Nat → Int32} {av : List Value} : FrameBlind (va_Pc av (fun U => am_E A ad adV L xs U U.heap)) := by
  intro a U g mk q
  exact ⟨q.1, am_E.same (U := U.calling g mk a) rfl q.2⟩
set_option maxRecDepth 100000 in
theorem am_gtl_w : ∀ w ∈ [Cond.instanceMethod ⟨"java/lang/String", "length", "()I"⟩, Cond.selects "java/lang/String" ⟨"java/lang/String", "length", "()I"⟩ ⟨"java/lang/String", "length", "()I"⟩, Cond.initialized "java/lang/String", Cond.code ⟨"java/lang/String", "length", "()I"⟩ prog_17_method_54_code 1 (some .int)], w ∈ lw_tbl := lk_sub [735, 736, 112, 737] rfl
theorem am_gtl {o idx : Nat} (hm : (o, idx, 0) ∈ lk_t) : GoodIn lw_gw (wsV (am_on o) idx "java/lang/String" ⟨"java/lang/String", "length", "()I"⟩ am_wsl) := by
  intro w hw
  unfold wsV at hw
  simp only [List.cons_append, List.nil_append, List.mem_cons] at hw
  rcases hw with rfl | rfl | rfl | rfl | hw
  · exact ⟨lw_gw_in (lk_t_ok _ hm) rfl, Or.inl rfl⟩
  · exact ⟨lw_gw_in (am_gtl_w _ List.mem_cons_self) rfl, Or.inl rfl⟩
  · exact ⟨lw_gw_in (am_gtl_w _ (List.mem_cons_of_mem _ List.mem_cons_self)) rfl, Or.inl rfl⟩
  · exact ⟨lw_gw_in (am_gtl_w _ (List.mem_cons_of_mem _ (List.mem_cons_of_mem _ List.mem_cons_self))) rfl, Or.inl rfl⟩
  · rcases List.mem_cons.mp hw with rfl | hw
    · exact ⟨lw_gw_in (am_gtl_w _ (List.mem_cons_of_mem _ (List.mem_cons_of_mem _ (List.mem_cons_of_mem _ List.mem_cons_self)))) rfl, Or.inl rfl⟩
    · exact ⟨hw, good_of_word (List.mem_filter.mp hw).2⟩
set_option maxRecDepth 100000 in
theorem am_gtc_w : ∀ w ∈ [Cond.instanceMethod ⟨"java/lang/String", "charAt", "(I)C"⟩, Cond.selects "java/lang/String" ⟨"java/lang/String", "charAt", "(I)C"⟩ ⟨"java/lang/String", "charAt", "(I)C"⟩, Cond.initialized "java/lang/String", Cond.code ⟨"java/lang/String", "charAt", "(I)C"⟩ prog_17_method_56_code 2 (some .char)], w ∈ lw_tbl := lk_sub [745, 746, 112, 747] rfl
theorem am_gtc {o idx : Nat} (hm : (o, idx, 1) ∈ lk_t) : GoodIn lw_gw (wsV (am_on o) idx "java/lang/String" ⟨"java/lang/String", "charAt", "(I)C"⟩ am_wsc) := by
  intro w hw
  unfold wsV at hw
  simp only [List.cons_append, List.nil_append, List.mem_cons] at hw
  rcases hw with rfl | rfl | rfl | rfl | hw
  · exact ⟨lw_gw_in (lk_t_ok _ hm) rfl, Or.inl rfl⟩
  · exact ⟨lw_gw_in (am_gtc_w _ List.mem_cons_self) rfl, Or.inl rfl⟩
  · exact ⟨lw_gw_in (am_gtc_w _ (List.mem_cons_of_mem _ List.mem_cons_self)) rfl, Or.inl rfl⟩
  · exact ⟨lw_gw_in (am_gtc_w _ (List.mem_cons_of_mem _ (List.mem_cons_of_mem _ List.mem_cons_self))) rfl, Or.inl rfl⟩
  · rcases List.mem_cons.mp hw with rfl | hw
    · exact ⟨lw_gw_in (am_gtc_w _ (List.mem_cons_of_mem _ (List.mem_cons_of_mem _ (List.mem_cons_of_mem _ List.mem_cons_self)))) rfl, Or.inl rfl⟩
    · exact ⟨hw, good_of_word (List.mem_filter.mp hw).2⟩
