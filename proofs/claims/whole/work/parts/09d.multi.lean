/-! ===== rows of rows ===== -/
theorem am_rows_n (a c n : Nat) : ∀ (k p : Nat) (S : am_S), am_n (am_rows a c n k p S) = am_n S + k
  | 0, _, _ => rfl
  | k + 1, p, S => by
    show am_n (am_rows a c n k (p + 1) (am_pr (am_mk S c n) a p (am_n S))) = _
    rw [am_rows_n]
    show am_n S + 1 + k = am_n S + (k + 1)
    omega
theorem am_rows_w (a c n : Nat) : ∀ (k p : Nat) (S : am_S), am_w (am_rows a c n k p S) = am_w S + k * n
  | 0, _, _ => by simp [am_rows]
  | k + 1, p, S => by
    show am_w (am_rows a c n k (p + 1) (am_pr (am_mk S c n) a p (am_n S))) = _
    rw [am_rows_w]
    show am_w S + n + k * n = am_w S + (k + 1) * n
    rw [Nat.succ_mul]; omega
theorem am_rows_old (a c n x : Nat) : ∀ (k p : Nat) (S : am_S), x < am_n S → am_c (am_rows a c n k p S) x = am_c S x ∧ am_l (am_rows a c n k p S) x = am_l S x ∧ am_i (am_rows a c n k p S) x = am_i S x ∧ am_j (am_rows a c n k p S) x = am_j S x ∧ (x ≠ a → am_r (am_rows a c n k p S) x = am_r S x)
  | 0, _, _, _ => ⟨rfl, rfl, rfl, rfl, fun _ => rfl⟩
  | k + 1, p, S, h => by
    have hne : x ≠ am_n S := by omega
    obtain ⟨h1, h2, h3, h4, h5⟩ := am_rows_old a c n x k (p + 1) (am_pr (am_mk S c n) a p (am_n S)) (by show x < am_n S + 1; omega)
    refine ⟨h1.trans (am_up_n hne), h2.trans (am_up_n hne), h3.trans (am_up_n hne), h4.trans (am_up_n hne), fun hx => (h5 hx).trans ?_⟩
    show am_up (am_r (am_mk S c n)) a _ x = _
    rw [am_up_n hx]
    exact am_up_n hne
theorem am_rows_r (a c n : Nat) : ∀ (k p : Nat) (S : am_S), a < am_n S → ∀ j, am_r (am_rows a c n k p S) a j = if p ≤ j ∧ j < p + k then some (am_n S + (j - p)) else am_r S a j
  | 0, p, S, _, j => by rw [if_neg (by omega)]; rfl
  | k + 1, p, S, h, j => by
    show am_r (am_rows a c n k (p + 1) (am_pr (am_mk S c n) a p (am_n S))) a j = _
    rw [am_rows_r a c n k (p + 1) (am_pr (am_mk S c n) a p (am_n S)) (by show a < am_n S + 1; omega) j]
    have e1 : am_n (am_pr (am_mk S c n) a p (am_n S)) = am_n S + 1 := rfl
    have e2 : am_r (am_pr (am_mk S c n) a p (am_n S)) a j = if j = p then some (am_n S) else am_r S a j := by
      show am_up (am_r (am_mk S c n)) a (am_up (am_r (am_mk S c n) a) p (some (am_n S))) a j = _
      rw [am_up_s]
      show (if j = p then some (am_n S) else am_r (am_mk S c n) a j) = _
      rw [show am_r (am_mk S c n) a = am_r S a from am_up_n (by omega)]
    rw [e1, e2]
    by_cases h1 : j = p
    · subst h1
      rw [if_neg (by omega), if_pos rfl, if_pos (by omega), Nat.sub_self]
      rfl
    · rw [if_neg h1]
      by_cases h2 : p + 1 ≤ j ∧ j < p + 1 + k
      · rw [if_pos h2, if_pos (by omega)]
        congr 1
        omega
      · rw [if_neg h2, if_neg (by omega)]
theorem am_rows_new (a c n : Nat) : ∀ (k p : Nat) (S : am_S) (j : Nat), a < am_n S → j < k → am_c (am_rows a c n k p S) (am_n S + j) = c ∧ am_l (am_rows a c n k p S) (am_n S + j) = n ∧ am_i (am_rows a c n k p S) (am_n S + j) = (fun _ => 0) ∧ am_j (am_rows a c n k p S) (am_n S + j) = (fun _ => 0) ∧ am_r (am_rows a c n k p S) (am_n S + j) = (fun _ => none)
  | 0, _, _, _, _, h => absurd h (by omega)
  | k + 1, p, S, 0, ha, _ => by
    obtain ⟨h1, h2, h3, h4, h5⟩ := am_rows_old a c n (am_n S) k (p + 1) (am_pr (am_mk S c n) a p (am_n S)) (by show am_n S < am_n S + 1; omega)
    refine ⟨h1.trans am_up_s, h2.trans am_up_s, h3.trans am_up_s, h4.trans am_up_s, (h5 (by omega)).trans ?_⟩
    show am_up (am_r (am_mk S c n)) a _ (am_n S) = _
    rw [am_up_n (by omega)]
    exact am_up_s
  | k + 1, p, S, j + 1, ha, h => by
    have hh := am_rows_new a c n k (p + 1) (am_pr (am_mk S c n) a p (am_n S)) j (by show a < am_n S + 1; omega) (by omega)
    have e1 : am_n (am_pr (am_mk S c n) a p (am_n S)) + j = am_n S + (j + 1) := by show am_n S + 1 + j = _; omega
    rw [e1] at hh
    exact hh
theorem am_Iv.rows {L : Nat} {xs : Nat → Int32} {a c n : Nat} (hc : am_vk c) : ∀ (k p : Nat) {S : am_S}, am_Iv L xs S → am_n S + k < 1200 → am_Iv L xs (am_rows a c n k p S)
  | 0, _, _, h, _ => h
  | k + 1, p, S, h, hn => am_Iv.rows hc k (p + 1) ((h.mk (n := n) hc (by omega)).pr (Nat.lt_succ_self _)) (by show am_n S + 1 + k < 1200; omega)
theorem am_wd_rows {dA : Nat → ClassId} {ad ad' : Nat → Nat} {S : am_S} {c0 c n k : Nat} (g : am_ag (am_n S) ad ad') (h : ∀ a j r, am_r S a j = some r → r < am_n S) (h0 : 102 < c0) (hc : 100 ≤ c ∧ c ≤ 102) :
    am_wd dA ad' (am_rows (am_n S) c n k 0 (am_mk S c0 k)) = (am_wd dA ad S ++ [(ad' (am_n S), .inl (dA c0, k, .inr (.inr (.inr (.inr (fun j => if j < k then some (ad' (am_n S + 1 + j)) else none))))))]) ++ (List.range k).map fun j => (ad' (am_n S + 1 + j), .inl (dA c, n, if c < 102 then .inl (fun _ => 0) else .inr (.inl (fun _ => 0)))) := by
  have e0 : am_n (am_mk S c0 k) = am_n S + 1 := rfl
  conv => lhs; unfold am_wd
  rw [am_rows_n, e0, List.range_add, List.map_append, List.range_succ, List.map_append]
  congr 1
  · congr 1
    · rw [← am_wd_ag g h]
      unfold am_wd
      apply List.map_congr_left
      intro x hx
      have hx := List.mem_range.mp hx
      congr 1
      obtain ⟨h1, h2, h3, h4, h5⟩ := am_rows_old (am_n S) c n x k 0 (am_mk S c0 k) (by rw [e0]; omega)
      have hne : x ≠ am_n S := by omega
      exact am_ce_eq (h1.trans (am_up_n hne)) (h2.trans (am_up_n hne)) (h3.trans (am_up_n hne)) (h4.trans (am_up_n hne)) ((h5 hne).trans (am_up_n hne))
    · simp only [List.map_cons, List.map_nil]
      congr 2
      obtain ⟨h1, h2, h3, h4, -⟩ := am_rows_old (am_n S) c n (am_n S) k 0 (am_mk S c0 k) (by rw [e0]; omega)
      have hcc : am_c (am_rows (am_n S) c n k 0 (am_mk S c0 k)) (am_n S) = c0 := h1.trans am_up_s
      rw [am_ce_a hcc (by omega), am_ac_r hcc h0, h2]
      rw [show am_l (am_mk S c0 k) (am_n S) = k from am_up_s]
      congr 7
      funext j
      rw [am_rows_r (am_n S) c n k 0 (am_mk S c0 k) (by rw [e0]; omega) j]
      by_cases hj : j < k
      · rw [if_pos (by omega), if_pos hj]
        show some (ad' (am_n (am_mk S c0 k) + (j - 0))) = _
        rw [e0, Nat.sub_zero]
      · rw [if_neg (by omega), if_neg hj]
        show (am_r (am_mk S c0 k) (am_n S) j).map ad' = none
        rw [show am_r (am_mk S c0 k) (am_n S) = fun _ => none from am_up_s]
        rfl
  · rw [List.map_map]
    apply List.map_congr_left
    intro j hj
    have hj := List.mem_range.mp hj
    show (ad' (am_n S + 1 + j), _) = _
    congr 1
    obtain ⟨h1, h2, h3, h4, h5⟩ := am_rows_new (am_n S) c n k 0 (am_mk S c0 k) j (by rw [e0]; omega) hj
    rw [e0] at h1 h2 h3 h4 h5
    rw [am_ce_a h1 (by omega)]
    unfold am_ac
    rw [h1, h2, h3, h4, h5]
    congr 3
    by_cases h9 : c < 102
    · rw [if_pos h9, if_pos h9]
    · rw [if_neg h9, if_neg h9, if_pos (by omega)]
theorem vr_outer (c : ClassId) (N h0 : Nat) : ∀ i : Nat, Jvm.Free.Multi.outerC c N h0 i = arrV c N (fun j => va_rf (if j < i then some (h0 + 1 + j) else none))
  | 0 => by
    show ({ cls := c, slots := Array.replicate N .null, vm := .none } : Cell) = _
    rw [arrV_new]
    refine congrArg (arrV c N) (funext fun j => ?_)
    simp [va_rf]
  | i + 1 => by
    show (Jvm.Free.Multi.outerC c N h0 i).setSlot i (.ref (h0 + 1 + i)) = _
    rw [vr_outer c N h0 i, arrV_store]
    refine congrArg (arrV c N) (funext fun j => ?_)
    by_cases e : j = i
    · subst e
      simp [updV, va_rf]
    · by_cases h : j < i
      · simp [updV, e, h, Nat.lt_succ_of_lt h]
      · simp [updV, e, h, show ¬ j < i + 1 by omega]
section VGM
variable {p : Program} {l : Launch} {e : Env} {R : Room} {s : State} {m : MethodId} {args : Array Value} {below : List Frame} {meth : Method} {c : Code} {H : Heap} {locs : List Loc} {cells slots : Nat} {Q : State → Prop}
variable {cc : ByteArray} {pc : Nat} {ls : Array Slot} {rest : List Value} {D : va_G} {cl : List vw_C} {A : Nat → Prop} {ws : va_W} {H0 : Heap}
set_option maxHeartbeats 4000000 in
theorem am_mna {cc : ByteArray} (hexec : p.tables.exec = Jvm.exec) (hb : c.code = cc) {own : String} {index : Nat} {ty : FieldType} {cA cy : ClassId} (hown : s.vm.findClass own = some m.cls) (hclink : (Cond.classLink own index ("[" ++ (FieldType.array ty).toString)).before args s = true) (hover : (Cond.arrayOver (.array ty)).before args s = true) (harr : (Cond.arrayClass ty).before args s = true) (hcA : s.vm.findClass ("[" ++ (FieldType.array ty).toString) = some cA) (hcy : s.vm.findClass (FieldType.array ty).toString = some cy)
    (hP : va_P D cl ws H) (hD : va_D A ws) (hS : va_S A H0 H locs) (hA : ∀ q, H0.size ≤ q → A q) {n k : Int32} {z : vp_A} (hn : ¬ n < 0) (hk : ¬ k < 0)
    (hb1 : n.toNatClampNeg * 4 ≤ 536870912) (hb2 : k.toNatClampNeg * componentBytes ty ≤ 536870912) (hb3 : k.toNatClampNeg ≤ 536870912) (hdf : fits ty (defaultValue ty) = true) (hdd : (defaultValue ty).isDefault = true) (hcells : cells + (1 + n.toNatClampNeg) ≤ R.cells) (hslots : slots + (n.toNatClampNeg + n.toNatClampNeg * k.toNatClampNeg) ≤ R.slots) (hz : Jvm.Free.Multi.innerC cy k.toNatClampNeg (defaultValue ty) = vp_cell cy z) (hdg : decode cc pc = .ok (.multianewarray index 2, 4))
    (kk : ∀ (H1 : Heap), va_P D cl ((ws ++ [(H.size, .inl (cA, n.toNatClampNeg, .inr (.inr (.inr (.inr (fun i => if i < n.toNatClampNeg then some (H.size + 1 + i) else none))))))]) ++ (List.range n.toNatClampNeg).map fun i => (H.size + 1 + i, .inl (cy, z))) H1 →
      va_D A ((ws ++ [(H.size, .inl (cA, n.toNatClampNeg, .inr (.inr (.inr (.inr (fun i => if i < n.toNatClampNeg then some (H.size + 1 + i) else none))))))]) ++ (List.range n.toNatClampNeg).map fun i => (H.size + 1 + i, .inl (cy, z))) → va_S A H0 H1 locs →
      W p l e R s m args below meth c H1 locs (cells + 1 + n.toNatClampNeg) (slots + n.toNatClampNeg + n.toNatClampNeg * k.toNatClampNeg) Q (F0 m (pc + 4) ls (.ref H.size :: rest))) : W p l e R s m args below meth c H locs cells slots Q (F0 m pc ls (.int k :: .int n :: rest)) := by
  intro T hT Xs
  obtain ⟨vm₁, cA', comp, -, fA, fC, hO, -, X', step⟩ := Xs.multianewarray2F hexec hown hclink hover harr (g := F0 m pc ls (.int k :: .int n :: rest)) rfl (by rw [hb]; exact hdg) rfl hn hk hb1 hb2 hb3 hdf hdd hcells hslots
  have ec : some cy = some comp := hcy.symm.trans fC
  cases ec
  have ec : some cA = some cA' := hcA.symm.trans fA
  cases ec
  generalize hF : Jvm.Free.Multi.fill (T.setVm vm₁) cA cy n.toNatClampNeg k.toNatClampNeg (defaultValue ty) n.toNatClampNeg = F at X' step
  have hTh : (T.setVm vm₁).heap = H := hT
  obtain ⟨f1, f2, -, -⟩ := Jvm.Free.Multi.fill_facts (T.setVm vm₁) cA cy n.toNatClampNeg k.toNatClampNeg (defaultValue ty) n.toNatClampNeg
  rw [hF, hTh] at f1 f2
  have hold : ∀ x : Nat, x < H.size → F.heap[x]? = H[x]? := fun x hx => by
    have := Jvm.Free.Multi.fill_old (T.setVm vm₁) cA cy n.toNatClampNeg k.toNatClampNeg (defaultValue ty) (a := x) (by rw [hTh]; exact hx) n.toNatClampNeg
    rw [hF, hTh] at this
    exact this
  have hrow : ∀ j : Nat, j < n.toNatClampNeg → F.heap[H.size + 1 + j]? = some (vp_cell cy z) := fun j hj => by
    have := Jvm.Free.Multi.fill_inner (T.setVm vm₁) cA cy n.toNatClampNeg k.toNatClampNeg (defaultValue ty) n.toNatClampNeg j hj
    rw [hF, hTh, hz] at this
    exact this
  have hout : Jvm.Free.Multi.outerC cA n.toNatClampNeg H.size n.toNatClampNeg = vp_cell cA (n.toNatClampNeg, .inr (.inr (.inr (.inr (fun i => if i < n.toNatClampNeg then some (H.size + 1 + i) else none))))) := by
    rw [vp_cell_q]
    exact vr_outer cA n.toNatClampNeg H.size n.toNatClampNeg
  rw [hout] at f2
  have hP0 : va_P D cl ws F.heap := hP.kept (fun k9 x hx => hold x.1 ((hP k9 x hx).lt))
  have hP1 : va_P D cl (ws ++ [(H.size, .inl (cA, n.toNatClampNeg, .inr (.inr (.inr (.inr (fun i => if i < n.toNatClampNeg then some (H.size + 1 + i) else none))))))]) F.heap := hP0.app (fun k9 x hx => by
    have h0 : k9 < 1 := (List.getElem?_eq_some_iff.mp hx).1
    rw [show k9 = 0 by omega] at hx
    cases hx
    exact f2)
  have hP2 : va_P D cl ((ws ++ [(H.size, .inl (cA, n.toNatClampNeg, .inr (.inr (.inr (.inr (fun i => if i < n.toNatClampNeg then some (H.size + 1 + i) else none))))))]) ++ (List.range n.toNatClampNeg).map fun i => (H.size + 1 + i, .inl (cy, z))) F.heap := hP1.app (fun k9 x hx => by
    obtain ⟨i, hi, rfl⟩ := List.mem_map.mp (List.mem_of_getElem? hx)
    exact hrow i (List.mem_range.mp hi))
  have hD2 : va_D A ((ws ++ [(H.size, .inl (cA, n.toNatClampNeg, .inr (.inr (.inr (.inr (fun i => if i < n.toNatClampNeg then some (H.size + 1 + i) else none))))))]) ++ (List.range n.toNatClampNeg).map fun i => (H.size + 1 + i, .inl (cy, z))) := by
    have hD1 := hD.push (e := .inl (cA, n.toNatClampNeg, .inr (.inr (.inr (.inr (fun i => if i < n.toNatClampNeg then some (H.size + 1 + i) else none)))))) hP rfl (hA _ hS.1)
    generalize hW1 : ws ++ [(H.size, .inl (cA, n.toNatClampNeg, .inr (.inr (.inr (.inr (fun i => if i < n.toNatClampNeg then some (H.size + 1 + i) else none))))))] = W1 at hD1 hP1 ⊢
    have hle : ∀ (k9 : Nat) (x : Nat × va_E), W1[k9]? = some x → x.1 ≤ H.size := fun k9 x hx => by
      rw [← hW1] at hx
      by_cases hl : k9 < ws.length
      · rw [List.getElem?_append_left hl] at hx
        exact Nat.le_of_lt ((hP k9 x hx).lt)
      · rw [List.getElem?_append_right (by omega)] at hx
        have h0 : k9 - ws.length < 1 := (List.getElem?_eq_some_iff.mp hx).1
        rw [show k9 - ws.length = 0 by omega] at hx
        cases hx
        exact Nat.le_refl _
    have hr : ∀ (k9 : Nat) (x : Nat × va_E), ((List.range n.toNatClampNeg).map fun i => ((H.size + 1 + i, .inl (cy, z)) : Nat × va_E))[k9]? = some x → x.1 = H.size + 1 + k9 := fun k9 x hx => by
      rw [List.getElem?_map] at hx
      by_cases h9 : k9 < n.toNatClampNeg
      · rw [List.getElem?_range h9] at hx
        cases hx
        rfl
      · have hn0 : (List.range n.toNatClampNeg)[k9]? = none := List.getElem?_eq_none (by rw [List.length_range]; omega)
        rw [hn0] at hx
        cases hx
    refine ⟨fun i j x y hi hj hxy => ?_, fun k9 x hx => ?_⟩
    · by_cases h1 : i < W1.length <;> by_cases h2 : j < W1.length
      · rw [List.getElem?_append_left h1] at hi
        rw [List.getElem?_append_left h2] at hj
        exact hD1.1 i j x y hi hj hxy
      · rw [List.getElem?_append_left h1] at hi
        rw [List.getElem?_append_right (by omega)] at hj
        have := hle _ _ hi
        have := hr _ _ hj
        omega
      · rw [List.getElem?_append_right (by omega)] at hi
        rw [List.getElem?_append_left h2] at hj
        have := hle _ _ hj
        have := hr _ _ hi
        omega
      · rw [List.getElem?_append_right (by omega)] at hi hj
        have := hr _ _ hi
        have := hr _ _ hj
        omega
    · by_cases h1 : k9 < W1.length
      · rw [List.getElem?_append_left h1] at hx
        exact hD1.2 k9 x hx
      · rw [List.getElem?_append_right (by omega)] at hx
        have := hr _ _ hx
        exact hA _ (by have := hS.1; omega)
  obtain ⟨t, a1, b1⟩ := kk F.heap hP2 hD2 ⟨by rw [f1]; have := hS.1; omega, fun x h1 h2 => (hold x (Nat.lt_of_lt_of_le h1 hS.1)).trans (hS.2.1 x h1 h2), hS.2.2⟩ F rfl X'
  refine ⟨t, step t ?_, b1⟩
  have e : T.heap.size = H.size := by rw [hT]
  rw [e]
  exact a1
end VGM
def am_adr (n h : Nat) (ad : Nat → Nat) : Nat → Nat := fun q => if n ≤ q ∧ q < 2000000 then h + (q - n) else ad q
theorem am_adr_ag {n h : Nat} {ad : Nat → Nat} : am_ag n ad (am_adr n h ad) := fun q hq => if_neg (by omega)
theorem am_adr_at {n h : Nat} {ad : Nat → Nat} (q : Nat) (hn : n < 1200) (hq : q < 1000) : am_adr n h ad (n + q) = h + q := by
  unfold am_adr
  rw [if_pos (by omega)]
  omega
theorem am_wd_rowsE {dA : Nat → ClassId} {ad : Nat → Nat} {S : am_S} {c0 c n k h : Nat} {z : vp_A} (hr : ∀ a j r, am_r S a j = some r → r < am_n S) (h0 : 102 < c0) (hc : 100 ≤ c ∧ c ≤ 102) (hn : am_n S < 1000) (hk : k ≤ 100) (hz : (n, if c < 102 then .inl (fun _ => 0) else .inr (.inl (fun _ => 0))) = z) :
    (am_wd dA ad S ++ [(h, .inl (dA c0, k, .inr (.inr (.inr (.inr (fun j => if j < k then some (h + 1 + j) else none))))))]) ++ (List.range k).map (fun j => (h + 1 + j, .inl (dA c, z))) = am_wd dA (am_adr (am_n S) h ad) (am_rows (am_n S) c n k 0 (am_mk S c0 k)) := by
  subst hz
  rw [am_wd_rows am_adr_ag hr h0 hc]
  have e0 : am_adr (am_n S) h ad (am_n S) = h := am_adr_at 0 (by omega) (by omega)
  have e1 : ∀ j, j < k → am_adr (am_n S) h ad (am_n S + 1 + j) = h + 1 + j := fun j hj => by
    have := am_adr_at (n := am_n S) (h := h) (ad := ad) (1 + j) (by omega) (by omega)
    rw [show am_n S + 1 + j = am_n S + (1 + j) by omega, this]; omega
  rw [e0]
  congr 1
  · have ef : (fun j => if j < k then some (h + 1 + j) else none) = fun j => if j < k then some (am_adr (am_n S) h ad (am_n S + 1 + j)) else none := funext fun j => by
      by_cases hj : j < k
      · rw [if_pos hj, if_pos hj, e1 j hj]
      · rw [if_neg hj, if_neg hj]
    rw [ef]
  · apply List.map_congr_left
    intro j hj
    rw [e1 j (List.mem_range.mp hj)]
