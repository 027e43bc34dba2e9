/-! ===== the constructors' run: it asks nothing of the rows, the script and the texts ===== -/
def am_mix (ii : Nat → Nat → Int32) (S : am_S) : am_S := (am_n S, am_w S, am_c S, am_l S, am_r S, (fun a => cond (Nat.blt a 2000000) (am_i S a) (ii a)), am_j S)
def am_Pc (S : am_S) : Prop := ∀ a, 2000000 ≤ a → 900 ≤ am_c S a
def am_Mx (ii : Nat → Nat → Int32) (a b : am_R) : Prop := ∀ v S', a = some (v, S') → b = some (v, am_mix ii S') ∧ am_Pc S'
theorem am_mx_no {ii : Nat → Nat → Int32} {b : am_R} : am_Mx ii none b := fun v S' h => by cases h
theorem am_mx_ite {ii : Nat → Nat → Int32} {c : Prop} [Decidable c] {a b a2 b2 : am_R} (ha : c → am_Mx ii a a2) (hb : ¬ c → am_Mx ii b b2) : am_Mx ii (if c then a else b) (if c then a2 else b2) := by
  by_cases hc : c
  · rw [if_pos hc, if_pos hc]; exact ha hc
  · rw [if_neg hc, if_neg hc]; exact hb hc
theorem am_mx_bq {ii : Nat → Nat → Int32} {o : Option Nat} {k k2 : Nat → am_R} (h : ∀ x, am_Mx ii (k x) (k2 x)) : am_Mx ii (am_bq o k) (am_bq o k2) := by
  rcases o with _ | v
  · exact am_mx_no
  · exact h v
theorem am_mx_bV {ii : Nat → Nat → Int32} {o o2 : am_R} {k k2 : am_S → am_R} (ho : am_Mx ii o o2) (h : ∀ S, am_Pc S → am_Mx ii (k S) (k2 (am_mix ii S))) : am_Mx ii (am_bV o k) (am_bV o2 k2) := by
  rcases o with _ | ⟨_ | v, S⟩
  · exact am_mx_no
  · obtain ⟨h1, h2⟩ := ho _ _ rfl
    rw [h1]
    exact h S h2
  · exact am_mx_no
theorem am_mx_br {ii : Nat → Nat → Int32} {c : Jvm.ClassFile.Cond} {x y : Int32} {a b a2 b2 : am_R} (ha : am_Mx ii a a2) (hb : am_Mx ii b b2) : am_Mx ii (am_br c x y a b) (am_br c x y a2 b2) := by
  cases c
  · exact am_mx_ite (fun _ => ha) (fun _ => hb)
  · exact am_mx_ite (fun _ => hb) (fun _ => ha)
  · exact am_mx_ite (fun _ => ha) (fun _ => hb)
  · exact am_mx_ite (fun _ => hb) (fun _ => ha)
  · exact am_mx_ite (fun _ => ha) (fun _ => hb)
  · exact am_mx_ite (fun _ => hb) (fun _ => ha)
theorem am_mix_pi {ii : Nat → Nat → Int32} {S : am_S} {a k : Nat} {v : Int32} (ha : a < 2000000) : am_pi (am_mix ii S) a k v = am_mix ii (am_pi S a k v) := by
  have e : am_up (fun b => cond (Nat.blt b 2000000) (am_i S b) (ii b)) a (am_up (cond (Nat.blt a 2000000) (am_i S a) (ii a)) k v) = fun b => cond (Nat.blt b 2000000) (am_up (am_i S) a (am_up (am_i S a) k v) b) (ii b) := by
    funext b
    unfold am_up
    by_cases hb : b = a
    · subst hb
      rw [am_blt_t ha]
      simp only [cond_true, if_true]
    · simp only [if_neg hb]
  show (am_n S, am_w S, am_c S, am_l S, am_r S, _, am_j S) = _
  rw [show am_up (am_i (am_mix ii S)) a (am_up (am_i (am_mix ii S) a) k v) = _ from e]
  rfl
theorem am_mix_mk {ii : Nat → Nat → Int32} {S : am_S} {c n : Nat} (ha : am_n S < 2000000) : am_mk (am_mix ii S) c n = am_mix ii (am_mk S c n) := by
  have e : am_up (fun b => cond (Nat.blt b 2000000) (am_i S b) (ii b)) (am_n S) (fun _ => (0 : Int32)) = fun b => cond (Nat.blt b 2000000) (am_up (am_i S) (am_n S) (fun _ => 0) b) (ii b) := by
    funext b
    unfold am_up
    by_cases hb : b = am_n S
    · subst hb
      rw [am_blt_t ha]
      simp only [cond_true, if_true]
    · simp only [if_neg hb]
  show (am_n S + 1, am_w S + n, _, _, _, am_up (fun b => cond (Nat.blt b 2000000) (am_i S b) (ii b)) (am_n S) (fun _ => (0 : Int32)), _) = _
  rw [e]
  rfl
theorem am_pc_mk {S : am_S} {c n : Nat} (ha : am_n S < 2000000) (h : am_Pc S) : am_Pc (am_mk S c n) := fun a hx => by
  show 900 ≤ am_up (am_c S) (am_n S) c a
  unfold am_up
  rw [if_neg (by omega)]
  exact h a hx
theorem am_mix_rows {ii : Nat → Nat → Int32} {a c n : Nat} : ∀ (k p : Nat) (S : am_S), am_n S + k < 2000000 → am_Pc S → am_rows a c n k p (am_mix ii S) = am_mix ii (am_rows a c n k p S) ∧ am_Pc (am_rows a c n k p S)
  | 0, _, _, _, h => ⟨rfl, h⟩
  | k + 1, p, S, hn, h => by
    have e : am_pr (am_mk (am_mix ii S) c n) a p (am_n (am_mix ii S)) = am_mix ii (am_pr (am_mk S c n) a p (am_n S)) := by
      rw [am_mix_mk (by omega)]
      rfl
    show am_rows a c n k (p + 1) (am_pr (am_mk (am_mix ii S) c n) a p (am_n (am_mix ii S))) = _ ∧ _
    rw [e]
    have hp : am_Pc (am_mk S c n) := am_pc_mk (by omega) h
    exact am_mix_rows k (p + 1) (am_pr (am_mk S c n) a p (am_n S)) (by show am_n S + 1 + k < 2000000; omega) hp
def am_ci (ins : Instr) : Bool := match ins with
  | .iconst _ => true
  | .bipush _ => true
  | .iload _ => true
  | .aload _ => true
  | .istore _ => true
  | .iinc _ _ => true
  | .dup => true
  | .goto _ => true
  | .if_icmp _ _ => true
  | .getfield k => Nat.beq (k % 4) 2
  | .putfield k => Nat.blt (k / 256) 900
  | .iastore => true
  | .aastore => true
  | .arraylength => true
  | .new _ => true
  | .newarray _ => true
  | .anewarray _ => true
  | .multianewarray _ _ => true
  | .monitorenter => true
  | .invokespecial _ => true
  | .return_ => true
  | .nop => true
  | _ => false
theorem am_gd_n {S : am_S} {lo st : List Value} (h : am_gd S lo st = true) : am_n S < 1000 := by
  unfold am_gd at h
  simp only [Bool.and_eq_true] at h
  simpa [Nat.blt_eq] using h.1
theorem am_mxs {ii : Nat → Nat → Int32} {f f2 : Nat → List Value → am_S → am_R} {K K2 : Nat → List Value → List Value → am_S → am_R} (hf : ∀ y as S, am_Pc S → am_Mx ii (f y as S) (f2 y as (am_mix ii S))) (hK : ∀ i lo st S, am_Pc S → am_Mx ii (K i lo st S) (K2 i lo st (am_mix ii S))) (ins : Instr) (hci : am_ci ins = true) (i : Nat) (lo st : List Value) (S : am_S) (hS : am_Pc S) :
    am_Mx ii (am_stp f K ins i lo st S) (am_stp f2 K2 ins i lo st (am_mix ii S)) := by
  have sm : ∀ a, am_c S a < 900 → a < 2000000 := fun a ha => Nat.lt_of_not_le fun hh => absurd (hS a hh) (Nat.not_le.mpr ha)
  cases ins
  case nop => exact am_mx_no
  case iconst v => exact hK _ _ _ _ hS
  case bipush v => exact hK _ _ _ _ hS
  case goto t => exact hK _ _ _ _ hS
  case iload k =>
    have e : ∀ v, am_nth lo k = v → am_Mx ii (am_stp f K (.iload k) i lo st S) (am_stp f2 K2 (.iload k) i lo st (am_mix ii S)) := by
      intro v hv
      simp only [am_stp, hv]
      cases v <;> first | exact hK _ _ _ _ hS | exact am_mx_no
    exact e _ rfl
  case aload k =>
    have e : ∀ v, am_nth lo k = v → am_Mx ii (am_stp f K (.aload k) i lo st S) (am_stp f2 K2 (.aload k) i lo st (am_mix ii S)) := by
      intro v hv
      simp only [am_stp, hv]
      cases v <;> first | exact hK _ _ _ _ hS | exact am_mx_no
    exact e _ rfl
  case iinc k c =>
    have e : ∀ v, am_nth lo k = v → am_Mx ii (am_stp f K (.iinc k c) i lo st S) (am_stp f2 K2 (.iinc k c) i lo st (am_mix ii S)) := by
      intro v hv
      simp only [am_stp, hv]
      cases v <;> first | exact hK _ _ _ _ hS | exact am_mx_no
    exact e _ rfl
  case istore k =>
    rcases st with _ | ⟨v, st⟩
    · exact am_mx_no
    · cases v <;> first | exact hK _ _ _ _ hS | exact am_mx_no
  case dup =>
    rcases st with _ | ⟨v, st⟩
    · exact am_mx_no
    · exact am_mx_ite (fun _ => hK _ _ _ _ hS) (fun _ => am_mx_no)
  case if_icmp c t =>
    rcases st with _ | ⟨v, _ | ⟨w, st⟩⟩
    · exact am_mx_no
    · cases v <;> exact am_mx_no
    · cases v
      case int y =>
        cases w
        case int x => exact am_mx_br (hK _ _ _ _ hS) (hK _ _ _ _ hS)
        all_goals exact am_mx_no
      all_goals exact am_mx_no
  case getfield k =>
    have hk : k % 4 = 2 := Nat.eq_of_beq_eq_true hci
    rcases st with _ | ⟨v, st⟩
    · exact am_mx_no
    · cases v
      case ref a =>
        refine am_mx_ite (fun _ => ?_) (fun _ => am_mx_no)
        rw [hk]
        exact am_mx_bq fun _ => hK _ _ _ _ hS
      all_goals exact am_mx_no
  case putfield k =>
    rcases st with _ | ⟨v, _ | ⟨w, st⟩⟩
    · exact am_mx_no
    · cases v <;> exact am_mx_no
    · cases v
      case int x =>
        cases w
        case ref a =>
          refine am_mx_ite (fun hc => ?_) (fun _ => am_mx_no)
          have hk : k / 256 < 900 := by simpa [am_ci, Nat.blt_eq] using hci
          have ha := sm a (by rw [hc]; exact hk)
          generalize k % 4 = q
          rcases q with _ | _ | _ | _ | q
          · show am_Mx ii _ (K2 (i + 1) lo st (am_pi (am_mix ii S) a (k / 4 % 64) x))
            rw [am_mix_pi ha]
            exact hK _ _ _ _ hS
          · exact am_mx_no
          · exact am_mx_no
          · refine am_mx_ite (fun _ => ?_) (fun _ => am_mx_no)
            rw [am_mix_pi ha]
            exact hK _ _ _ _ hS
          · exact am_mx_no
        all_goals exact am_mx_no
      case long x =>
        cases w
        case ref a =>
          refine am_mx_ite (fun _ => ?_) (fun _ => am_mx_no)
          generalize k % 4 = q
          rcases q with _ | _ | q
          · exact am_mx_no
          · exact hK _ _ _ _ hS
          · exact am_mx_no
        all_goals exact am_mx_no
      case ref x =>
        cases w
        case ref a =>
          refine am_mx_ite (fun _ => ?_) (fun _ => am_mx_no)
          generalize k % 4 = q
          rcases q with _ | _ | _ | q
          · exact am_mx_no
          · exact am_mx_no
          · exact am_mx_ite (fun _ => hK _ _ _ _ hS) (fun _ => am_mx_no)
          · exact am_mx_no
        all_goals exact am_mx_no
      all_goals exact am_mx_no
  case iastore =>
    rcases st with _ | ⟨v, _ | ⟨w, _ | ⟨u, st⟩⟩⟩
    · exact am_mx_no
    · cases v <;> exact am_mx_no
    · cases v <;> first | exact am_mx_no | (cases w <;> exact am_mx_no)
    · cases v
      case int v =>
        cases w
        case int x =>
          cases u
          case ref a =>
            refine am_mx_ite (fun hc => am_mx_ite (fun _ => am_mx_no) (fun _ => ?_)) (fun _ => am_mx_no)
            rw [am_mix_pi (sm a (by omega))]
            exact hK _ _ _ _ hS
          all_goals exact am_mx_no
        all_goals exact am_mx_no
      all_goals exact am_mx_no
  case aastore =>
    rcases st with _ | ⟨v, _ | ⟨w, _ | ⟨u, st⟩⟩⟩
    · exact am_mx_no
    · cases v <;> exact am_mx_no
    · cases v <;> first | exact am_mx_no | (cases w <;> exact am_mx_no)
    · cases v
      case ref v =>
        cases w
        case int x =>
          cases u
          case ref a => exact am_mx_ite (fun hc => am_mx_ite (fun _ => am_mx_no) (fun _ => hK _ _ _ _ hS)) (fun _ => am_mx_no)
          all_goals exact am_mx_no
        all_goals exact am_mx_no
      all_goals exact am_mx_no
  case arraylength =>
    rcases st with _ | ⟨v, st⟩
    · exact am_mx_no
    · cases v <;> first | exact am_mx_no | exact am_mx_ite (fun _ => hK _ _ _ _ hS) (fun _ => am_mx_no)
  case new k =>
    refine am_mx_ite (fun hg => ?_) (fun _ => am_mx_no)
    have hn := am_gd_n hg
    rw [am_mix_mk (by omega)]
    exact hK _ _ _ _ (am_pc_mk (by omega) hS)
  case newarray t =>
    rcases st with _ | ⟨v, st⟩
    · exact am_mx_no
    · cases v
      case int x =>
        refine am_mx_ite (fun _ => am_mx_no) (fun hg => ?_)
        have hn : am_n S < 1000 := by
          cases hh : am_gd S lo st with
          | true => exact am_gd_n hh
          | false => exact absurd (Or.inr (Or.inr hh)) hg
        cases t <;> dsimp only <;> first | exact am_mx_no | (rw [am_mix_mk (by omega)]; exact hK _ _ _ _ (am_pc_mk (by omega) hS))
      all_goals exact am_mx_no
  case anewarray k =>
    rcases st with _ | ⟨v, st⟩
    · exact am_mx_no
    · cases v
      case int x =>
        refine am_mx_ite (fun _ => am_mx_no) (fun hg => ?_)
        have hn : am_n S < 1000 := by
          cases hh : am_gd S lo st with
          | true => exact am_gd_n hh
          | false => exact absurd (Or.inr (Or.inr hh)) hg
        rw [am_mix_mk (by omega)]
        exact hK _ _ _ _ (am_pc_mk (by omega) hS)
      all_goals exact am_mx_no
  case multianewarray k e =>
    rcases st with _ | ⟨v, _ | ⟨w, st⟩⟩
    · exact am_mx_no
    · cases v <;> exact am_mx_no
    · cases v
      case int y =>
        cases w
        case int x =>
          refine am_mx_ite (fun _ => am_mx_no) (fun hg => ?_)
          have hn : am_n S < 1000 := by
            cases hh : am_gd S lo st with
            | true => exact am_gd_n hh
            | false => exact absurd (Or.inr (Or.inr (Or.inr (Or.inr hh)))) hg
          have hx : x.toNatClampNeg ≤ 100 := Nat.le_of_not_lt fun h => hg (Or.inr (Or.inl h))
          rcases k with _ | _ | k
          · show am_Mx ii _ (K2 (i + 1) lo (.ref (am_n S) :: st) (am_rows (am_n S) 100 y.toNatClampNeg x.toNatClampNeg 0 (am_mk (am_mix ii S) 180 x.toNatClampNeg)))
            rw [am_mix_mk (by omega)]
            obtain ⟨h1, h2⟩ := am_mix_rows (ii := ii) (a := am_n S) (c := 100) (n := y.toNatClampNeg) x.toNatClampNeg 0 (am_mk S 180 x.toNatClampNeg) (by show am_n S + 1 + _ < _; omega) (am_pc_mk (by omega) hS)
            rw [h1]
            exact hK _ _ _ _ h2
          · show am_Mx ii _ (K2 (i + 1) lo (.ref (am_n S) :: st) (am_rows (am_n S) 102 y.toNatClampNeg x.toNatClampNeg 0 (am_mk (am_mix ii S) 182 x.toNatClampNeg)))
            rw [am_mix_mk (by omega)]
            obtain ⟨h1, h2⟩ := am_mix_rows (ii := ii) (a := am_n S) (c := 102) (n := y.toNatClampNeg) x.toNatClampNeg 0 (am_mk S 182 x.toNatClampNeg) (by show am_n S + 1 + _ < _; omega) (am_pc_mk (by omega) hS)
            rw [h1]
            exact hK _ _ _ _ h2
          · exact am_mx_no
        all_goals exact am_mx_no
      all_goals exact am_mx_no
  case monitorenter =>
    rcases st with _ | ⟨v, st⟩
    · exact am_mx_no
    · cases v <;> first | exact am_mx_no | exact am_mx_ite (fun _ => hK _ _ _ _ hS) (fun _ => am_mx_no)
  case invokespecial y => exact am_mx_ite (fun _ => am_mx_bV (hf _ _ _ hS) fun S2 h2 => hK _ _ _ _ h2) (fun _ => am_mx_no)
  case return_ =>
    rcases st with _ | ⟨v, st⟩
    · intro v S' h
      cases h
      exact ⟨rfl, hS⟩
    · exact am_mx_no
  all_goals cases hci
/-- the constructors called as they are, by steps -/
def am_ccs (y : Nat) : Bool := Nat.beq y 0 || (Nat.beq y 5 || (Nat.beq y 7 || (Nat.beq y 9 || (Nat.beq y 18 || (Nat.beq y 33 || (Nat.beq y 40 || (Nat.beq y 54 || (Nat.beq y 57 || (Nat.beq y 61 || (Nat.beq y 63 || (Nat.beq y 91 || Nat.beq y 150)))))))))))
def am_clr (n : Nat) : Nat → Nat → List Value → am_S → am_R
  | 0, _, _, _ => none
  | d + 1, y, as, S => if (am_ccs y && am_gr y as S) = true then am_run (am_clr n d) y n 0 (am_ent y as) [] S else none
theorem am_ccs_ci : ∀ y, y < 272 → am_ccs y = false ∨ (pg_m y).flatten.all am_ci = true := by decide +kernel
theorem am_ccs_lt {y : Nat} (h : am_ccs y = true) : y < 272 := by
  unfold am_ccs at h
  simp only [Bool.or_eq_true] at h
  rcases h with h | h | h | h | h | h | h | h | h | h | h | h | h <;> (have := Nat.eq_of_beq_eq_true h; omega)
theorem am_clr_mix {ii : Nat → Nat → Int32} {n : Nat} : ∀ (d y : Nat) (as : List Value) (S : am_S), am_Pc S → am_Mx ii (am_clr n d y as S) (am_clr n d y as (am_mix ii S))
  | 0, _, _, _, _ => am_mx_no
  | d + 1, y, as, S, hS => by
    show am_Mx ii (if (am_ccs y && am_gr y as S) = true then am_run (am_clr n d) y n 0 (am_ent y as) [] S else none) (if (am_ccs y && am_gr y as S) = true then am_run (am_clr n d) y n 0 (am_ent y as) [] (am_mix ii S) else none)
    refine am_mx_ite (fun hc => ?_) (fun _ => am_mx_no)
    have hcc : am_ccs y = true := by
      simp only [Bool.and_eq_true] at hc
      exact hc.1
    have hci : ∀ i, am_ci (pg_cd y i) = true := fun i => by
      rcases pg_cd_mem y i with h1 | h1
      · rw [h1]; rfl
      · rcases am_ccs_ci y (am_ccs_lt hcc) with h2 | h2
        · rw [h2] at hcc; cases hcc
        · exact List.all_eq_true.mp h2 _ h1
    have hr : ∀ (q i : Nat) (lo st : List Value) (S : am_S), am_Pc S → am_Mx ii (am_run (am_clr n d) y q i lo st S) (am_run (am_clr n d) y q i lo st (am_mix ii S)) := by
      intro q
      induction q with
      | zero => intro i lo st S hS; exact am_mx_no
      | succ q ih => intro i lo st S hS; exact am_mxs (fun y as S hS => am_clr_mix d y as S hS) ih _ (hci i) _ _ _ _ hS
    exact hr _ _ _ _ _ hS
theorem am_clr_le {n : Nat} : ∀ (d y : Nat) (as : List Value) (S : am_S), am_Le (am_clr n d y as S) (am_cal d y as S)
  | 0, _, _, _ => am_Le.no
  | d + 1, y, as, S => by
    intro r h
    have h : (if (am_ccs y && am_gr y as S) = true then am_run (am_clr n d) y n 0 (am_ent y as) [] S else none) = some r := h
    by_cases hc : (am_ccs y && am_gr y as S) = true
    · rw [if_pos hc] at h
      simp only [Bool.and_eq_true] at hc
      show (if am_gr y as S = true then am_X (am_cal d) y 0 (am_ent y as) [] S else none) = some r
      rw [if_pos hc.2]
      exact am_X_of (am_run_le (fun z as S => am_clr_le d z as S) y n 0 (am_ent y as) [] S r h)
    · rw [if_neg hc] at h; cases h
theorem am_X_le {f f2 : Nat → List Value → am_S → am_R} (hf : ∀ z as S, am_Le (f z as S) (f2 z as S)) (m i : Nat) (lo st : List Value) (S : am_S) : am_Le (am_X f m i lo st S) (am_X f2 m i lo st S) := fun r h => by
  obtain ⟨n, hn⟩ := am_X_to h
  exact am_X_of (am_run_le hf m n i lo st S r hn)
theorem am_cal_dp1 : ∀ (d y : Nat) (as : List Value) (S : am_S), am_Le (am_cal d y as S) (am_cal (d + 1) y as S)
  | 0, _, _, _ => am_Le.no
  | d + 1, y, as, S => by
    show am_Le (if am_gr y as S = true then am_X (am_cal d) y 0 (am_ent y as) [] S else none) (if am_gr y as S = true then am_X (am_cal (d + 1)) y 0 (am_ent y as) [] S else none)
    exact am_Le.ite (am_X_le (fun z as S => am_cal_dp1 d z as S) _ _ _ _ _) am_Le.no
/-- a deeper call answers as well -/
theorem am_cal_dp {d e y : Nat} {as : List Value} {S : am_S} {r : Option Value × am_S} (hd : d ≤ e) (h : am_cal d y as S = some r) : am_cal e y as S = some r := by
  induction hd with
  | refl => exact h
  | step _ ih => exact am_cal_dp1 _ _ _ _ _ ih
