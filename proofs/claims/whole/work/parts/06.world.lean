/-! ===== the machine's cells that a state of the small machine stands for ===== -/
def am_tr (ad : Nat → Nat) (v : Value) : Value := match v with
  | .ref r => .ref (ad r)
  | v => v
theorem am_tr_cat (ad : Nat → Nat) (v : Value) : (am_tr ad v).category = v.category := by cases v <;> rfl
theorem am_cat_tr (ad : Nat → Nat) : ∀ st : List Value, ((st.map (am_tr ad)).map fun v => v.category).sum = am_cat st
  | [] => rfl
  | v :: st => by
    show (am_tr ad v).category + ((st.map (am_tr ad)).map fun v => v.category).sum = v.category + am_cat st
    rw [am_tr_cat, am_cat_tr ad st]
def am_tys (dA : Nat → ClassId) : List (ClassId × FieldType) := [(dA 100, .int), (dA 101, .byte), (dA 102, .long), (dA 104, .object RX1), (dA 105, .object RX2), (dA 110, .object RX7), (dA 112, .object RX9), (dA 180, .array .int), (dA 182, .array .long)]
def am_fv (ad : Nat → Nat) (S : am_S) (a t j : Nat) : Value := match t with
  | 1 => .long (am_j S a j)
  | 2 => va_rf ((am_r S a j).map ad)
  | _ => .int (am_i S a j)
def am_fs (ad : Nat → Nat) (S : am_S) (a : Nat) : List Nat → Nat → List Value
  | [], _ => []
  | t :: ts, j => am_fv ad S a t j :: am_fs ad S a ts (j + 1)
def am_ac (ad : Nat → Nat) (S : am_S) (a : Nat) : vp_A := (am_l S a, if am_c S a < 102 then .inl (am_i S a) else if am_c S a = 102 then .inr (.inl (am_j S a)) else .inr (.inr (.inr (.inr (fun j => (am_r S a j).map ad)))))
def am_ce (dA : Nat → ClassId) (ad : Nat → Nat) (S : am_S) (a : Nat) : va_E := if am_c S a < 100 then .inr (am_c S a, am_fs ad S a (am_ft (am_c S a)) 0) else .inl (dA (am_c S a), am_ac ad S a)
def am_wd (dA : Nat → ClassId) (ad : Nat → Nat) (S : am_S) : va_W := (List.range (am_n S)).map fun k => (ad k, am_ce dA ad S k)
theorem am_wd_at {dA : Nat → ClassId} {ad : Nat → Nat} {S : am_S} {k : Nat} (h : k < am_n S) : (am_wd dA ad S)[k]? = some (ad k, am_ce dA ad S k) := by
  unfold am_wd
  rw [List.getElem?_map, List.getElem?_range h]
  rfl
theorem am_ce_o {dA : Nat → ClassId} {ad : Nat → Nat} {S : am_S} {a c : Nat} (h : am_c S a = c) (hc : c < 100) : am_ce dA ad S a = .inr (c, am_fs ad S a (am_ft c) 0) := by
  unfold am_ce
  rw [h, if_pos hc]
theorem am_ce_a {dA : Nat → ClassId} {ad : Nat → Nat} {S : am_S} {a c : Nat} (h : am_c S a = c) (hc : ¬ c < 100) : am_ce dA ad S a = .inl (dA c, am_ac ad S a) := by
  unfold am_ce
  rw [h, if_neg hc]
theorem am_ac_i {ad : Nat → Nat} {S : am_S} {a c : Nat} (h : am_c S a = c) (hc : c < 102) : am_ac ad S a = (am_l S a, .inl (am_i S a)) := by
  unfold am_ac
  rw [h, if_pos hc]
theorem am_ac_j {ad : Nat → Nat} {S : am_S} {a : Nat} (h : am_c S a = 102) : am_ac ad S a = (am_l S a, .inr (.inl (am_j S a))) := by
  unfold am_ac
  rw [h, if_neg (by decide), if_pos rfl]
theorem am_ac_r {ad : Nat → Nat} {S : am_S} {a c : Nat} (h : am_c S a = c) (hc : 102 < c) : am_ac ad S a = (am_l S a, .inr (.inr (.inr (.inr (fun j => (am_r S a j).map ad))))) := by
  unfold am_ac
  rw [h, if_neg (by omega), if_neg (by omega)]
theorem am_fs_at {ad : Nat → Nat} {S : am_S} {a : Nat} : ∀ (ts : List Nat) (j k t : Nat), ts[k]? = some t → (am_fs ad S a ts j)[k]? = some (am_fv ad S a t (j + k))
  | [], _, _, _, h => by simp at h
  | t0 :: ts, j, 0, t, h => by
    simp only [List.getElem?_cons_zero, Option.some.injEq] at h
    subst h
    rfl
  | t0 :: ts, j, k + 1, t, h => by
    simp only [List.getElem?_cons_succ] at h
    have := am_fs_at (ad := ad) (S := S) (a := a) ts (j + 1) k t h
    show (am_fs ad S a ts (j + 1))[k]? = _
    rw [this, show j + 1 + k = j + (k + 1) by omega]
theorem am_fs_len {ad : Nat → Nat} {S : am_S} {a : Nat} : ∀ (ts : List Nat) (j : Nat), (am_fs ad S a ts j).length = ts.length
  | [], _ => rfl
  | _ :: ts, j => congrArg (· + 1) (am_fs_len ts (j + 1))
/-- a cell is written: its own entry alone changes -/
theorem am_wd_set {dA : Nat → ClassId} {ad : Nat → Nat} {S S' : am_S} {a : Nat} {e : va_E} (hn : am_n S' = am_n S) (ho : ∀ k, k ≠ a → am_ce dA ad S' k = am_ce dA ad S k) (ha : am_ce dA ad S' a = e) : (am_wd dA ad S).set a (ad a, e) = am_wd dA ad S' := by
  subst ha
  unfold am_wd
  rw [hn]
  apply List.ext_getElem?
  intro k
  by_cases hk : k < am_n S
  · rw [List.getElem?_map, List.getElem?_range hk]
    by_cases hka : k = a
    · subst hka
      rw [List.getElem?_set_self (by simpa using hk)]
      rfl
    · rw [List.getElem?_set_ne (Ne.symm hka), List.getElem?_map, List.getElem?_range hk]
      show some (ad k, am_ce dA ad S k) = some (ad k, am_ce dA ad S' k)
      rw [ho k hka]
  · rw [List.getElem?_eq_none (by simpa using hk), List.getElem?_eq_none (by simpa using hk)]
theorem am_up_s {α : Type} {f : Nat → α} {k : Nat} {v : α} : am_up f k v k = v := if_pos rfl
theorem am_up_n {α : Type} {f : Nat → α} {k j : Nat} {v : α} (h : j ≠ k) : am_up f k v j = f j := if_neg h
theorem am_fs_eq {ad : Nat → Nat} {S S' : am_S} {a : Nat} (h1 : am_i S' a = am_i S a) (h2 : am_j S' a = am_j S a) (h3 : am_r S' a = am_r S a) : ∀ (ts : List Nat) (j : Nat), am_fs ad S' a ts j = am_fs ad S a ts j
  | [], _ => rfl
  | t :: ts, j => by
    show am_fv ad S' a t j :: am_fs ad S' a ts (j + 1) = am_fv ad S a t j :: am_fs ad S a ts (j + 1)
    rw [am_fs_eq h1 h2 h3 ts (j + 1)]
    unfold am_fv
    rw [h1, h2, h3]
theorem am_ce_eq {dA : Nat → ClassId} {ad : Nat → Nat} {S S' : am_S} {a : Nat} (h0 : am_c S' a = am_c S a) (hl : am_l S' a = am_l S a) (h1 : am_i S' a = am_i S a) (h2 : am_j S' a = am_j S a) (h3 : am_r S' a = am_r S a) : am_ce dA ad S' a = am_ce dA ad S a := by
  unfold am_ce am_ac
  rw [h0, hl, h1, h2, h3, am_fs_eq h1 h2 h3]
/-- a field is written -/
theorem am_fs_set {ad : Nat → Nat} {S S' : am_S} {a j0 : Nat} {v : Value} : ∀ (ts : List Nat) (j k t : Nat), ts[k]? = some t → am_fv ad S' a t (j + k) = v → (∀ i t', i ≠ j + k → am_fv ad S' a t' i = am_fv ad S a t' i) → am_fs ad S' a ts j = (am_fs ad S a ts j).set k v
  | [], _, _, _, h, _, _ => by simp at h
  | t0 :: ts, j, 0, t, h, hv, ho => by
    simp only [List.getElem?_cons_zero, Option.some.injEq] at h
    subst h
    show am_fv ad S' a t0 j :: am_fs ad S' a ts (j + 1) = v :: am_fs ad S a ts (j + 1)
    rw [show am_fv ad S' a t0 j = v from hv]
    congr 1
    have : ∀ (ts : List Nat) (i : Nat), j < i → am_fs ad S' a ts i = am_fs ad S a ts i := by
      intro ts
      induction ts with
      | nil => intro i _; rfl
      | cons t ts ih =>
        intro i hi
        show am_fv ad S' a t i :: am_fs ad S' a ts (i + 1) = am_fv ad S a t i :: am_fs ad S a ts (i + 1)
        rw [ih (i + 1) (by omega), ho i t (by omega)]
    exact this ts (j + 1) (by omega)
  | t0 :: ts, j, k + 1, t, h, hv, ho => by
    simp only [List.getElem?_cons_succ] at h
    show am_fv ad S' a t0 j :: am_fs ad S' a ts (j + 1) = am_fv ad S a t0 j :: (am_fs ad S a ts (j + 1)).set k v
    rw [ho j t0 (by omega), am_fs_set (j0 := j0) (v := v) (S := S) (S' := S') ts (j + 1) k t h (by rw [show j + 1 + k = j + (k + 1) by omega]; exact hv) (fun i t' hi => ho i t' (by omega))]
theorem am_ft_len : ∀ c, c < 13 → (am_ft c).length = am_N c := by decide +kernel
theorem am_cl : ∀ c, c < 13 → vwCl[c]? = some (am_on c, am_T c, am_N c) := by
  intro c hc
  match c, hc with
  | 0, _ => rfl
  | 1, _ => rfl
  | 2, _ => rfl
  | 3, _ => rfl
  | 4, _ => rfl
  | 5, _ => rfl
  | 6, _ => rfl
  | 7, _ => rfl
  | 8, _ => rfl
  | 9, _ => rfl
  | 10, _ => rfl
  | 11, _ => rfl
  | 12, _ => rfl
  | c + 13, h => exact absurd h (by omega)
theorem am_tyok : ∀ c, c < 13 → ∀ k, k < am_N c → parseFieldDescriptor (am_T c k).2.2.1 = some (am_ty c k) := by
  intro c hc
  match c, hc with
  | 0, _ => exact tyX0_ok
  | 1, _ => exact tyX1_ok
  | 2, _ => exact tyX2_ok
  | 3, _ => exact tyX3_ok
  | 4, _ => exact tyX4_ok
  | 5, _ => exact tyX5_ok
  | 6, _ => exact tyX6_ok
  | 7, _ => exact tyX7_ok
  | 8, _ => exact tyX8_ok
  | 9, _ => exact tyX9_ok
  | 10, _ => exact tyX10_ok
  | 11, _ => exact tyX11_ok
  | 12, _ => exact tyX12_ok
  | c + 13, h => exact absurd h (by omega)
theorem am_nmok : ∀ c, c < 13 → ∀ a, a < am_N c → ∀ b, b < am_N c → a ≠ b → (am_T c a).2.1 ≠ (am_T c b).2.1 := by
  intro c hc
  match c, hc with
  | 0, _ => exact nmX0
  | 1, _ => exact nmX1
  | 2, _ => exact nmX2
  | 3, _ => exact nmX3
  | 4, _ => exact nmX4
  | 5, _ => exact nmX5
  | 6, _ => exact nmX6
  | 7, _ => exact nmX7
  | 8, _ => exact nmX8
  | 9, _ => exact nmX9
  | 10, _ => exact nmX10
  | 11, _ => exact nmX11
  | 12, _ => exact nmX12
  | c + 13, h => exact absurd h (by omega)
/-- a field's type is what the numbers say: 0 int, 1 long, 2 a reference, 3 boolean; its class declares it -/
def am_tq (t : Nat) (ty : FieldType) : Bool := match t, ty with
  | 0, .int => true
  | 1, .long => true
  | 2, .object _ => true
  | 2, .array _ => true
  | 3, .boolean => true
  | _, _ => false
theorem am_ftok : ∀ c, c < 13 → ∀ k, k < am_N c → am_tq ((am_ft c).getD k 9) (am_ty c k) = true ∧ (am_T c k).1 = am_on c := by decide +kernel
set_option maxRecDepth 100000 in
theorem am_uw_0 : ∀ w ∈ u_ws RX0 TX0 6, w ∈ lw_tbl := lk_sub [488, 490, 492, 494, 496, 498] rfl
set_option maxRecDepth 100000 in
theorem am_uw_1 : ∀ w ∈ u_ws RX1 TX1 5, w ∈ lw_tbl := lk_sub [290, 292, 294, 296, 298] rfl
set_option maxRecDepth 100000 in
theorem am_uw_2 : ∀ w ∈ u_ws RX2 TX2 3, w ∈ lw_tbl := lk_sub [259, 261, 263] rfl
set_option maxRecDepth 100000 in
theorem am_uw_3 : ∀ w ∈ u_ws RX3 TX3 5, w ∈ lw_tbl := lk_sub [154, 156, 158, 160, 162] rfl
set_option maxRecDepth 100000 in
theorem am_uw_4 : ∀ w ∈ u_ws RX4 TX4 7, w ∈ lw_tbl := lk_sub [458, 460, 462, 464, 466, 468, 470] rfl
set_option maxRecDepth 100000 in
theorem am_uw_5 : ∀ w ∈ u_ws RX5 TX5 2, w ∈ lw_tbl := lk_sub [408, 410] rfl
set_option maxRecDepth 100000 in
theorem am_uw_6 : ∀ w ∈ u_ws RX6 TX6 3, w ∈ lw_tbl := lk_sub [434, 436, 438] rfl
set_option maxRecDepth 100000 in
theorem am_uw_7 : ∀ w ∈ u_ws RX7 TX7 12, w ∈ lw_tbl := lk_sub [217, 219, 221, 223, 225, 227, 229, 231, 233, 235, 237, 239] rfl
set_option maxRecDepth 100000 in
theorem am_uw_8 : ∀ w ∈ u_ws RX8 TX8 1, w ∈ lw_tbl := lk_sub [421] rfl
set_option maxRecDepth 100000 in
theorem am_uw_9 : ∀ w ∈ u_ws RX9 TX9 4, w ∈ lw_tbl := lk_sub [318, 320, 322, 324] rfl
set_option maxRecDepth 100000 in
theorem am_uw_10 : ∀ w ∈ u_ws RX10 TX10 15, w ∈ lw_tbl := lk_sub [368, 370, 372, 374, 376, 378, 380, 382, 384, 386, 388, 390, 392, 394, 396] rfl
set_option maxRecDepth 100000 in
theorem am_uw_11 : ∀ w ∈ u_ws RX11 TX11 19, w ∈ lw_tbl := lk_sub [524, 526, 528, 530, 532, 534, 536, 538, 540, 542, 544, 546, 548, 550, 552, 554, 556, 558, 560] rfl
set_option maxRecDepth 100000 in
theorem am_uw_12 : ∀ w ∈ u_ws RX12 TX12 37, w ∈ lw_tbl := lk_sub [1252, 1254, 1256, 1258, 1260, 1262, 1264, 1266, 1268, 1270, 1272, 1274, 1276, 1278, 1280, 1282, 1284, 1286, 1288, 1290, 1292, 1294, 1296, 1298, 1300, 1302, 1304, 1306, 1308, 1310, 1312, 1314, 1316, 1318, 1320, 1322, 1324] rfl
theorem am_uw : ∀ c, c < 13 → ∀ w ∈ u_ws (am_on c) (am_T c) (am_N c), w ∈ lw_tbl := by
  intro c hc
  match c, hc with
  | 0, _ => exact am_uw_0
  | 1, _ => exact am_uw_1
  | 2, _ => exact am_uw_2
  | 3, _ => exact am_uw_3
  | 4, _ => exact am_uw_4
  | 5, _ => exact am_uw_5
  | 6, _ => exact am_uw_6
  | 7, _ => exact am_uw_7
  | 8, _ => exact am_uw_8
  | 9, _ => exact am_uw_9
  | 10, _ => exact am_uw_10
  | 11, _ => exact am_uw_11
  | 12, _ => exact am_uw_12
  | c + 13, h => exact absurd h (by omega)
