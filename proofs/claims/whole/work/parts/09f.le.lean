/-! ===== a step with callees that answer more often ===== -/
def am_Le (a b : am_R) : Prop := ∀ r, a = some r → b = some r
theorem am_Le.no {b : am_R} : am_Le none b := fun r h => by cases h
theorem am_Le.yes {x : am_R} : am_Le x x := fun r h => h
theorem am_Le.ite {c : Prop} [Decidable c] {a b a2 b2 : am_R} (ha : am_Le a a2) (hb : am_Le b b2) : am_Le (if c then a else b) (if c then a2 else b2) := by
  by_cases hc : c
  · rw [if_pos hc, if_pos hc]; exact ha
  · rw [if_neg hc, if_neg hc]; exact hb
theorem am_Le.bV {o o2 : am_R} {k k2 : am_S → am_R} (ho : am_Le o o2) (h : ∀ S, am_Le (k S) (k2 S)) : am_Le (am_bV o k) (am_bV o2 k2) := by
  rcases o with _ | ⟨_ | v, S⟩
  · exact am_Le.no
  · rw [ho _ rfl]; exact h S
  · exact am_Le.no
theorem am_Le.bI {o o2 : am_R} {k k2 : Int32 → am_S → am_R} (ho : am_Le o o2) (h : ∀ x S, am_Le (k x S) (k2 x S)) : am_Le (am_bI o k) (am_bI o2 k2) := by
  rcases o with _ | ⟨_ | v, S⟩
  · exact am_Le.no
  · exact am_Le.no
  · rw [ho _ rfl]
    cases v <;> first | exact h _ S | exact am_Le.no
theorem am_Le.bJ {o o2 : am_R} {k k2 : Int64 → am_S → am_R} (ho : am_Le o o2) (h : ∀ x S, am_Le (k x S) (k2 x S)) : am_Le (am_bJ o k) (am_bJ o2 k2) := by
  rcases o with _ | ⟨_ | v, S⟩
  · exact am_Le.no
  · exact am_Le.no
  · rw [ho _ rfl]
    cases v <;> first | exact h _ S | exact am_Le.no
theorem am_Le.bA {o o2 : am_R} {k k2 : Nat → am_S → am_R} (ho : am_Le o o2) (h : ∀ x S, am_Le (k x S) (k2 x S)) : am_Le (am_bA o k) (am_bA o2 k2) := by
  rcases o with _ | ⟨_ | v, S⟩
  · exact am_Le.no
  · exact am_Le.no
  · rw [ho _ rfl]
    cases v <;> first | exact h _ S | exact am_Le.no
theorem am_Le.bq {o : Option Nat} {k k2 : Nat → am_R} (h : ∀ x, am_Le (k x) (k2 x)) : am_Le (am_bq o k) (am_bq o k2) := by
  rcases o with _ | v
  · exact am_Le.no
  · exact h v
theorem am_Le.br {c : Jvm.ClassFile.Cond} {x y : Int32} {a b a2 b2 : am_R} (ha : am_Le a a2) (hb : am_Le b b2) : am_Le (am_br c x y a b) (am_br c x y a2 b2) := by
  cases c
  · exact am_Le.ite ha hb
  · exact am_Le.ite hb ha
  · exact am_Le.ite ha hb
  · exact am_Le.ite hb ha
  · exact am_Le.ite ha hb
  · exact am_Le.ite hb ha
theorem am_Le.sw {x : Int32} {d d2 : am_R} {K K2 : Nat → am_R} (hd : am_Le d d2) (hK : ∀ t, am_Le (K t) (K2 t)) : ∀ (ts : List Int) (lo : Nat), am_Le (am_sw x d K lo ts) (am_sw x d2 K2 lo ts)
  | [], _ => hd
  | t :: ts, lo => am_Le.ite (hK _) (am_Le.sw hd hK ts (lo + 1))
theorem am_Le.lk {x : Int32} {d d2 : am_R} {K K2 : Nat → am_R} (hd : am_Le d d2) (hK : ∀ t, am_Le (K t) (K2 t)) : ∀ (ts : List (Int × Int)), am_Le (am_lk x d K ts) (am_lk x d2 K2 ts)
  | [] => hd
  | t :: ts => am_Le.ite (hK _) (am_Le.lk hd hK ts)
theorem am_stp_le {f f2 : Nat → List Value → am_S → am_R} {K K2 : Nat → List Value → List Value → am_S → am_R} (hf : ∀ z as S, am_Le (f z as S) (f2 z as S)) (hK : ∀ i lo st S, am_Le (K i lo st S) (K2 i lo st S)) (ins : Instr) (i : Nat) (lo st : List Value) (S : am_S) :
    am_Le (am_stp f K ins i lo st S) (am_stp f2 K2 ins i lo st S) := by
  cases ins
  case getfield k =>
    rcases st with _ | ⟨v, st⟩
    · exact am_Le.no
    · cases v
      case ref a =>
        refine am_Le.ite ?_ am_Le.no
        generalize k % 4 = q
        rcases q with _ | _ | q
        · exact hK _ _ _ _
        · exact hK _ _ _ _
        · exact am_Le.bq fun _ => hK _ _ _ _
      all_goals exact am_Le.no
  case putfield k =>
    rcases st with _ | ⟨v, _ | ⟨w, st⟩⟩
    · exact am_Le.no
    · cases v <;> exact am_Le.no
    · cases v
      case int x =>
        cases w
        case ref a =>
          refine am_Le.ite ?_ am_Le.no
          generalize k % 4 = q
          rcases q with _ | _ | _ | _ | q
          · exact hK _ _ _ _
          · exact am_Le.no
          · exact am_Le.no
          · exact am_Le.ite (hK _ _ _ _) am_Le.no
          · exact am_Le.no
        all_goals exact am_Le.no
      case long x =>
        cases w
        case ref a =>
          refine am_Le.ite ?_ am_Le.no
          generalize k % 4 = q
          rcases q with _ | _ | q
          · exact am_Le.no
          · exact hK _ _ _ _
          · exact am_Le.no
        all_goals exact am_Le.no
      case ref x =>
        cases w
        case ref a =>
          refine am_Le.ite ?_ am_Le.no
          generalize k % 4 = q
          rcases q with _ | _ | _ | q
          · exact am_Le.no
          · exact am_Le.no
          · exact am_Le.ite (hK _ _ _ _) am_Le.no
          · exact am_Le.no
        all_goals exact am_Le.no
      all_goals exact am_Le.no
  case newarray t =>
    rcases st with _ | ⟨v, st⟩
    · exact am_Le.no
    · cases v
      case int x =>
        refine am_Le.ite am_Le.no ?_
        cases t <;> first | exact hK _ _ _ _ | exact am_Le.no
      all_goals exact am_Le.no
  case multianewarray k e =>
    rcases st with _ | ⟨v, _ | ⟨w, st⟩⟩
    · exact am_Le.no
    · cases v <;> exact am_Le.no
    · cases v
      case int y =>
        cases w
        case int x =>
          refine am_Le.ite am_Le.no ?_
          rcases k with _ | _ | k
          · exact hK _ _ _ _
          · exact hK _ _ _ _
          · exact am_Le.no
        all_goals exact am_Le.no
      all_goals exact am_Le.no
  case invokestatic y =>
    refine am_Le.ite ?_ am_Le.no
    generalize (pg_sg y).2 = q
    rcases q with _ | _ | _ | q
    · exact am_Le.bV (hf _ _ _) fun _ => hK _ _ _ _
    · exact am_Le.bI (hf _ _ _) fun _ _ => hK _ _ _ _
    · exact am_Le.bJ (hf _ _ _) fun _ _ => hK _ _ _ _
    · exact am_Le.bA (hf _ _ _) fun _ _ => hK _ _ _ _
  case invokespecial y => exact am_Le.ite (am_Le.bV (hf _ _ _) fun _ => hK _ _ _ _) am_Le.no
  case ireturn => exact am_Le.yes
  case freturn => exact am_Le.yes
  case lreturn => exact am_Le.yes
  case areturn => exact am_Le.yes
  case return_ => exact am_Le.yes
  case new k => exact am_Le.ite (hK _ _ _ _) am_Le.no
  case iload k =>
    have e : ∀ v, am_nth lo k = v → am_Le (am_stp f K (.iload k) i lo st S) (am_stp f2 K2 (.iload k) i lo st S) := by
      intro v hv
      simp only [am_stp, hv]
      cases v <;> first | exact hK _ _ _ _ | exact am_Le.no
    exact e _ rfl
  case lload k =>
    have e : ∀ v, am_nth lo k = v → am_Le (am_stp f K (.lload k) i lo st S) (am_stp f2 K2 (.lload k) i lo st S) := by
      intro v hv
      simp only [am_stp, hv]
      cases v <;> first | exact hK _ _ _ _ | exact am_Le.no
    exact e _ rfl
  case aload k =>
    have e : ∀ v, am_nth lo k = v → am_Le (am_stp f K (.aload k) i lo st S) (am_stp f2 K2 (.aload k) i lo st S) := by
      intro v hv
      simp only [am_stp, hv]
      cases v <;> first | exact hK _ _ _ _ | exact am_Le.no
    exact e _ rfl
  case iinc k c =>
    have e : ∀ v, am_nth lo k = v → am_Le (am_stp f K (.iinc k c) i lo st S) (am_stp f2 K2 (.iinc k c) i lo st S) := by
      intro v hv
      simp only [am_stp, hv]
      cases v <;> first | exact hK _ _ _ _ | exact am_Le.no
    exact e _ rfl
  all_goals first
    | exact am_Le.no
    | exact hK _ _ _ _
    | exact am_Le.yes
    | skip
  all_goals (rcases st with _ | ⟨v1, st⟩ <;> first | exact am_Le.no | skip)
  all_goals (first | exact am_Le.ite (hK _ _ _ _) am_Le.no | (cases v1 <;> first | exact am_Le.no | exact hK _ _ _ _ | exact am_Le.yes | exact am_Le.br (hK _ _ _ _) (hK _ _ _ _) | exact am_Le.sw (hK _ _ _ _) (fun _ => hK _ _ _ _) _ _ | exact am_Le.lk (hK _ _ _ _) (fun _ => hK _ _ _ _) _ | exact am_Le.ite (hK _ _ _ _) am_Le.no | exact am_Le.ite am_Le.no (hK _ _ _ _) | skip) | skip)
  all_goals (rcases st with _ | ⟨v2, st⟩ <;> first | exact am_Le.no | skip)
  all_goals (first | exact am_Le.ite (hK _ _ _ _) am_Le.no | (cases v2 <;> first | exact am_Le.no | exact hK _ _ _ _ | exact am_Le.br (hK _ _ _ _) (hK _ _ _ _) | exact am_Le.ite (hK _ _ _ _) am_Le.no | exact am_Le.ite am_Le.no (hK _ _ _ _) | exact am_Le.ite (am_Le.ite am_Le.no (hK _ _ _ _)) am_Le.no | exact am_Le.ite (am_Le.ite am_Le.no (am_Le.bq fun _ => hK _ _ _ _)) am_Le.no | skip) | skip)
  all_goals (rcases st with _ | ⟨v3, st⟩ <;> first | exact am_Le.no | skip)
  all_goals (cases v3 <;> first | exact am_Le.no | exact am_Le.ite (am_Le.ite am_Le.no (hK _ _ _ _)) am_Le.no | skip)
  all_goals (rcases st with _ | ⟨v4, st⟩ <;> first | exact am_Le.no | skip)
  all_goals (cases v4 <;> first | exact am_Le.no | skip)
  all_goals (rcases st with _ | ⟨v5, st⟩ <;> first | exact am_Le.no | skip)
  all_goals (cases v5 <;> first | exact am_Le.no | exact am_Le.ite (am_Le.ite am_Le.no (hK _ _ _ _)) am_Le.no)

theorem am_run_le {f f2 : Nat → List Value → am_S → am_R} (hf : ∀ z as S, am_Le (f z as S) (f2 z as S)) (m : Nat) : ∀ (n i : Nat) (lo st : List Value) (S : am_S), am_Le (am_run f m n i lo st S) (am_run f2 m n i lo st S)
  | 0, _, _, _, _ => am_Le.no
  | n + 1, _, _, _, _ => am_stp_le hf (am_run_le hf m n) _ _ _ _ _
