/-! ===== calls, d deep at most; the receiver is of the method's class ===== -/
def pg_ct0 (z : Nat) : Bool := (pg_nm z).name == "<init>"
def am_nod : List Value → Bool
  | [] => true
  | .double _ :: _ => false
  | .retAddr _ :: _ => false
  | _ :: l => am_nod l
def am_rcv (y : Nat) (as : List Value) (S : am_S) : Bool := match as with
  | .ref b :: _ => Nat.beq (am_c S b) (pg_ow y)
  | _ => false
def am_gr (y : Nat) (as : List Value) (S : am_S) : Bool := Nat.blt y 272 && (am_nod as && (Nat.ble (am_spr as).length (pg_mx y) && (pg_is y || am_rcv y as S)))
noncomputable def am_cal : Nat → Nat → List Value → am_S → am_R
  | 0, _, _, _ => none
  | d + 1, y, as, S => if am_gr y as S = true then am_X (am_cal d) y 0 (am_ent y as) [] S else none
theorem am_cal_spec {d y : Nat} {as : List Value} {S : am_S} {r : Option Value × am_S} (h : am_cal (d + 1) y as S = some r) : am_gr y as S = true ∧ ∃ n, am_run (am_cal d) y n 0 (am_ent y as) [] S = some r := by
  have h : (if am_gr y as S = true then am_X (am_cal d) y 0 (am_ent y as) [] S else none) = some r := h
  by_cases hg : am_gr y as S = true
  · rw [if_pos hg] at h
    exact ⟨hg, am_X_to h⟩
  · rw [if_neg hg] at h; cases h
theorem am_gr_spec {y : Nat} {as : List Value} {S : am_S} (h : am_gr y as S = true) : y < 272 ∧ am_nod as = true ∧ (am_spr as).length ≤ pg_mx y ∧ (pg_is y = false → ∃ b As, as = .ref b :: As ∧ am_c S b = pg_ow y) := by
  unfold am_gr at h
  simp only [Bool.and_eq_true] at h
  obtain ⟨h1, h2, h3, h4⟩ := h
  refine ⟨by simpa [Nat.blt_eq] using h1, h2, Nat.le_of_ble_eq_true h3, fun hs => ?_⟩
  rw [hs] at h4
  have h4 : am_rcv y as S = true := by simpa using h4
  rcases as with _ | ⟨v, as⟩
  · cases h4
  · cases v with
    | ref b => exact ⟨b, as, rfl, Nat.eq_of_beq_eq_true h4⟩
    | _ => cases h4
/-! ===== what a method that is no constructor leaves as it was ===== -/
def am_ly (S : am_S) : Nat × Nat × (Nat → Nat) × (Nat → Nat) × (Nat → Nat → Option Nat) := (am_n S, am_w S, am_c S, am_l S, am_r S)
theorem pg_at_mem {α : Type} (d : α) : ∀ (l : List α) (k : Nat), pg_at d l k = d ∨ pg_at d l k ∈ l
  | [], _ => Or.inl rfl
  | a :: _, 0 => Or.inr List.mem_cons_self
  | _ :: l, k + 1 => (pg_at_mem d l k).imp id (List.mem_cons_of_mem _)
theorem pg_cd_mem (m i : Nat) : pg_cd m i = .nop ∨ pg_cd m i ∈ (pg_m m).flatten := by
  unfold pg_cd
  rcases pg_at_mem .nop (pg_at [] (pg_m m) (i / 16)) (i % 16) with h | h
  · exact Or.inl h
  · rcases pg_at_mem [] (pg_m m) (i / 16) with h2 | h2
    · rw [h2] at h; cases h
    · exact Or.inr (List.mem_flatten.mpr ⟨_, h2, h⟩)
def pg_quiet (i : Instr) : Bool := !am_al i && (match i with | .invokestatic z => Nat.blt z 272 && !(pg_ct0 z) | _ => true)
set_option maxRecDepth 100000 in
theorem pg_qt : ∀ y, y < 272 → pg_ct0 y = true ∨ (pg_m y).flatten.all pg_quiet = true := by decide +kernel
def am_nor (f : Nat → List Value → am_S → am_R) : Nat → List Value → am_S → am_R := fun z as S => if (Nat.blt z 272 && !(pg_ct0 z)) = true then f z as S else none
theorem am_stp_nor {f : Nat → List Value → am_S → am_R} {K : Nat → List Value → List Value → am_S → am_R} {ins : Instr} {i : Nat} {lo st : List Value} {S : am_S} (h : pg_quiet ins = true) : am_stp f K ins i lo st S = am_stp (am_nor f) K ins i lo st S := by
  cases ins
  case invokestatic z =>
    have hz : (Nat.blt z 272 && !(pg_ct0 z)) = true := h
    have e : f z = am_nor f z := by
      funext as S
      unfold am_nor
      rw [if_pos hz]
    unfold am_stp
    simp only [e]
  case invokespecial z => cases h
  all_goals rfl
theorem am_lrun {f : Nat → List Value → am_S → am_R} (hf : ∀ z as S v S', z < 272 → pg_ct0 z = false → f z as S = some (v, S') → am_ly S' = am_ly S) {y : Nat} (hy : y < 272) (hc : pg_ct0 y = false) : ∀ (n i : Nat) (lo st : List Value) (S : am_S) (r : Option Value × am_S), am_run f y n i lo st S = some r → am_ly r.2 = am_ly S
  | 0, _, _, _, _, _, h => by cases h
  | n + 1, i, lo, st, S, r, h => by
    have h : am_stp f (am_run f y n) (pg_cd y i) i (am_kil y i lo) st S = some r := h
    have hq : pg_cd y i = .nop ∨ pg_quiet (pg_cd y i) = true := by
      rcases pg_cd_mem y i with h1 | h1
      · exact Or.inl h1
      · rcases pg_qt y hy with h2 | h2
        · rw [hc] at h2; cases h2
        · exact Or.inr (List.all_eq_true.mp h2 _ h1)
    rcases hq with hq | hq
    · rw [hq] at h; cases h
    · rw [am_stp_nor hq] at h
      have hal : am_al (pg_cd y i) = true → false = true := fun ha => by
        unfold pg_quiet at hq
        rw [ha] at hq
        cases hq
      exact am_pres (Qr := fun S' => am_ly S' = am_ly S) (G := fun S' => am_ly S' = am_ly S) (f := am_nor f) (K := am_run f y n) (S := S) (al := false)
        (fun i lo st S' hS' r hr => (am_lrun hf hy hc n i lo st S' r hr).trans hS') rfl rfl (fun _ _ _ => rfl) (fun _ _ _ => rfl) (fun _ _ _ _ _ => rfl) (fun h => by cases h) (fun h => by cases h) (fun h => by cases h)
        (fun z as v S' hz => by
          by_cases hz2 : (Nat.blt z 272 && !(pg_ct0 z)) = true
          · have hz : (if (Nat.blt z 272 && !(pg_ct0 z)) = true then f z as S else none) = some (v, S') := hz
            rw [if_pos hz2] at hz
            simp only [Bool.and_eq_true, Bool.not_eq_true'] at hz2
            exact hf z as S v S' (by simpa [Nat.blt_eq] using hz2.1) hz2.2 hz
          · have hz : (if (Nat.blt z 272 && !(pg_ct0 z)) = true then f z as S else none) = some (v, S') := hz
            rw [if_neg hz2] at hz
            cases hz) _ hal _ _ _ r h
theorem am_cal_ly : ∀ (d y : Nat) (as : List Value) (S : am_S) (v : Option Value) (S' : am_S), pg_ct0 y = false → am_cal d y as S = some (v, S') → am_ly S' = am_ly S
  | 0, _, _, _, _, _, _, h => by cases h
  | d + 1, y, as, S, v, S', hc, h => by
    obtain ⟨hg, n, hn⟩ := am_cal_spec h
    exact am_lrun (fun z as S v S' _ hz h => am_cal_ly d z as S v S' hz h) (am_gr_spec hg).1 hc n _ _ _ _ _ hn
/-! ===== the locals at a method's start ===== -/
theorem am_pad_nth : ∀ (n : Nat) (l : List Value) (k : Nat) (v : Value), am_nth (am_pad n l) k = v → v ≠ .null → am_nth l k = v
  | 0, _, _, _, h, _ => h
  | n + 1, [], 0, v, h, hv => absurd h.symm hv
  | n + 1, [], k + 1, v, h, hv => absurd (am_pad_nth n [] k v h hv).symm (by
      have : am_nth ([] : List Value) k = .null := by cases k <;> rfl
      intro e
      rw [this] at e
      exact hv (by cases e; rfl))
  | n + 1, a :: l, 0, v, h, _ => h
  | n + 1, a :: l, k + 1, v, h, hv => am_pad_nth n l k v h hv
theorem am_pad_len : ∀ (n : Nat) (l : List Value), l.length ≤ n → (am_pad n l).length = n
  | 0, l, h => by simpa [am_pad] using h
  | n + 1, [], _ => congrArg (· + 1) (am_pad_len n [] (Nat.zero_le _))
  | n + 1, a :: l, h => congrArg (· + 1) (am_pad_len n l (by simpa using h))
theorem am_spr_sl (ad : Nat → Nat) : ∀ (l : List Value), am_nod l = true → (lg_sl (l.map (am_tr ad))).length = (am_spr l).length
  | [], _ => rfl
  | v :: l, h => by
    have hl : am_nod l = true := by cases v <;> first | exact h | cases h
    have e := am_spr_sl ad l hl
    show (lg_sl (am_tr ad v :: l.map (am_tr ad))).length = _
    have e2 : lg_sl (am_tr ad v :: l.map (am_tr ad)) = (if (am_tr ad v).category = 2 then [.val (am_tr ad v), .second] else [.val (am_tr ad v)]) ++ lg_sl (l.map (am_tr ad)) := rfl
    rw [e2, List.length_append, e]
    cases v <;> first | (cases h; done) | (show _ = (am_spr l).length + 1; simp [am_tr, Value.category]; omega) | (show _ = (am_spr l).length + 1 + 1; simp [am_tr, Value.category]; omega)
theorem am_spr_in (ad : Nat → Nat) : ∀ (l : List Value) (j k : Nat) (v : Value), am_nod l = true → am_nth (am_spr l) k = v → v ≠ .null → (j + k, am_tr ad v) ∈ lv_args j (l.map (am_tr ad))
  | [], _, k, v, _, h, hv => absurd h.symm (by
      have : am_nth ([] : List Value) k = .null := by cases k <;> rfl
      show v ≠ am_nth [] k
      rw [this]
      exact hv)
  | .long x :: l, j, 0, v, h0, h, hv => by
    have h : Value.long x = v := h
    subst h
    exact List.mem_cons_self
  | .long x :: l, j, 1, v, h0, h, hv => absurd h.symm hv
  | .long x :: l, j, k + 2, v, h0, h, hv => by
    have := am_spr_in ad l (j + 2) k v h0 h hv
    rw [show j + (k + 2) = j + 2 + k by omega]
    exact List.mem_cons_of_mem _ this
  | .double x :: l, j, k, v, h0, h, hv => by cases h0
  | .retAddr x :: l, j, k, v, h0, h, hv => by cases h0
  | .int x :: l, j, 0, v, h0, h, hv => by
    have h : Value.int x = v := h
    subst h
    exact List.mem_cons_self
  | .int x :: l, j, k + 1, v, h0, h, hv => by
    have := am_spr_in ad l (j + 1) k v h0 h hv
    rw [show j + (k + 1) = j + 1 + k by omega]
    exact List.mem_cons_of_mem _ this
  | .ref x :: l, j, 0, v, h0, h, hv => by
    have h : Value.ref x = v := h
    subst h
    exact List.mem_cons_self
  | .ref x :: l, j, k + 1, v, h0, h, hv => by
    have := am_spr_in ad l (j + 1) k v h0 h hv
    rw [show j + (k + 1) = j + 1 + k by omega]
    exact List.mem_cons_of_mem _ this
  | .null :: l, j, 0, v, h0, h, hv => absurd h.symm hv
  | .null :: l, j, k + 1, v, h0, h, hv => by
    have := am_spr_in ad l (j + 1) k v h0 h hv
    rw [show j + (k + 1) = j + 1 + k by omega]
    exact List.mem_cons_of_mem _ this
  | .float x :: l, j, 0, v, h0, h, hv => by
    have h : Value.float x = v := h
    subst h
    exact List.mem_cons_self
  | .float x :: l, j, k + 1, v, h0, h, hv => by
    have := am_spr_in ad l (j + 1) k v h0 h hv
    rw [show j + (k + 1) = j + 1 + k by omega]
    exact List.mem_cons_of_mem _ this
theorem am_has_ent {ad : Nat → Nat} {y n : Nat} {as : List Value} {ls : Array Slot} (hn : n = pg_mx y) (h0 : am_nod as = true) (h1 : (am_spr as).length ≤ pg_mx y) (h : lv_has ls n (lv_args 0 (as.map (am_tr ad)))) : am_has ad ls n (am_ent y as) := by
  subst hn
  refine ⟨h.1, h.2.1, fun k v e hv => ?_, am_pad_len _ _ h1⟩
  have := am_spr_in ad as 0 k v h0 (am_pad_nth _ _ _ _ e hv) hv
  rw [Nat.zero_add] at this
  exact h.2.2 _ this
