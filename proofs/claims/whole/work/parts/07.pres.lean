
/-! ===== what a step keeps, the run keeps ===== -/
/-- instructions that make cells or write references -/
def am_al (ins : Instr) : Bool := match ins with
  | .new _ => true
  | .newarray _ => true
  | .anewarray _ => true
  | .multianewarray _ _ => true
  | .aastore => true
  | .invokespecial _ => true
  | .putfield k => Nat.beq (k % 4) 2
  | _ => false
section PS
variable {Qr : am_S → Prop}
def am_Ps (Qr : am_S → Prop) (a : am_R) : Prop := ∀ r, a = some r → Qr r.2
theorem am_ps_no : am_Ps Qr none := fun r h => by cases h
theorem am_ps_ret {v : Option Value} {S : am_S} (h : Qr S) : am_Ps Qr (some (v, S)) := fun r e => by cases e; exact h
theorem am_ps_ite {c : Prop} [Decidable c] {a b : am_R} (ha : am_Ps Qr a) (hb : am_Ps Qr b) : am_Ps Qr (if c then a else b) := by
  by_cases hc : c
  · rw [if_pos hc]; exact ha
  · rw [if_neg hc]; exact hb
theorem am_ps_bV {o : am_R} {k : am_S → am_R} (h : ∀ S, o = some (none, S) → am_Ps Qr (k S)) : am_Ps Qr (am_bV o k) := by
  rcases o with _ | ⟨_ | v, S⟩
  · exact am_ps_no
  · exact h S rfl
  · exact am_ps_no
theorem am_ps_bI {o : am_R} {k : Int32 → am_S → am_R} (h : ∀ x S, o = some (some (.int x), S) → am_Ps Qr (k x S)) : am_Ps Qr (am_bI o k) := by
  rcases o with _ | ⟨_ | v, S⟩
  · exact am_ps_no
  · exact am_ps_no
  · cases v <;> first | exact h _ S rfl | exact am_ps_no
theorem am_ps_bJ {o : am_R} {k : Int64 → am_S → am_R} (h : ∀ x S, o = some (some (.long x), S) → am_Ps Qr (k x S)) : am_Ps Qr (am_bJ o k) := by
  rcases o with _ | ⟨_ | v, S⟩
  · exact am_ps_no
  · exact am_ps_no
  · cases v <;> first | exact h _ S rfl | exact am_ps_no
theorem am_ps_bA {o : am_R} {k : Nat → am_S → am_R} (h : ∀ x S, o = some (some (.ref x), S) → am_Ps Qr (k x S)) : am_Ps Qr (am_bA o k) := by
  rcases o with _ | ⟨_ | v, S⟩
  · exact am_ps_no
  · exact am_ps_no
  · cases v <;> first | exact h _ S rfl | exact am_ps_no
theorem am_ps_bq {o : Option Nat} {k : Nat → am_R} (h : ∀ x, am_Ps Qr (k x)) : am_Ps Qr (am_bq o k) := by
  rcases o with _ | v
  · exact am_ps_no
  · exact h v
theorem am_ps_br {c : Jvm.ClassFile.Cond} {x y : Int32} {a b : am_R} (ha : am_Ps Qr a) (hb : am_Ps Qr b) : am_Ps Qr (am_br c x y a b) := by
  cases c
  · exact am_ps_ite ha hb
  · exact am_ps_ite hb ha
  · exact am_ps_ite ha hb
  · exact am_ps_ite hb ha
  · exact am_ps_ite ha hb
  · exact am_ps_ite hb ha
theorem am_ps_sw {x : Int32} {d : am_R} {K : Nat → am_R} (hd : am_Ps Qr d) (hK : ∀ t, am_Ps Qr (K t)) : ∀ (ts : List Int) (lo : Nat), am_Ps Qr (am_sw x d K lo ts)
  | [], _ => hd
  | t :: ts, lo => am_ps_ite (hK _) (am_ps_sw hd hK ts (lo + 1))
theorem am_ps_lk {x : Int32} {d : am_R} {K : Nat → am_R} (hd : am_Ps Qr d) (hK : ∀ t, am_Ps Qr (K t)) : ∀ (ts : List (Int × Int)), am_Ps Qr (am_lk x d K ts)
  | [] => hd
  | t :: ts => am_ps_ite (hK _) (am_ps_lk hd hK ts)
theorem am_pres {f : Nat → List Value → am_S → am_R} {K : Nat → List Value → List Value → am_S → am_R} {S : am_S} {G : am_S → Prop} (hK : ∀ i lo st S', G S' → am_Ps Qr (K i lo st S')) (h0 : Qr S) (hG : G S)
    (hi : ∀ a k v, G (am_pi S a k v)) (hj : ∀ a k v, G (am_pj S a k v)) (hc : ∀ a b x y z, G (am_cp S a b x y z)) {al : Bool} (hr : al = true → ∀ a k v, G (am_pr S a k v)) (hm : al = true → ∀ c n, G (am_mk S c n)) (hw : al = true → ∀ c1 n1 c n, G (am_rows (am_n S) c n n1 0 (am_mk S c1 n1)))
    (hf : ∀ z args v S', f z args S = some (v, S') → G S') (ins : Instr) (hal : am_al ins = true → al = true) (i : Nat) (lo st : List Value) : am_Ps Qr (am_stp f K ins i lo st S) := by
  cases ins
  case getfield k =>
    rcases st with _ | ⟨v, st⟩
    · exact am_ps_no
    · cases v
      case ref a =>
        refine am_ps_ite ?_ am_ps_no
        generalize k % 4 = q
        rcases q with _ | _ | q
        · exact (by first | exact hK _ _ _ _ hG | exact hK _ _ _ _ (hi _ _ _) | exact hK _ _ _ _ (hj _ _ _) | exact hK _ _ _ _ (hc _ _ _ _ _) | exact hK _ _ _ _ (hr (hal rfl) _ _ _) | exact hK _ _ _ _ (hm (hal rfl) _ _) | exact hK _ _ _ _ (hw (hal rfl) _ _ _ _))
        · exact (by first | exact hK _ _ _ _ hG | exact hK _ _ _ _ (hi _ _ _) | exact hK _ _ _ _ (hj _ _ _) | exact hK _ _ _ _ (hc _ _ _ _ _) | exact hK _ _ _ _ (hr (hal rfl) _ _ _) | exact hK _ _ _ _ (hm (hal rfl) _ _) | exact hK _ _ _ _ (hw (hal rfl) _ _ _ _))
        · exact am_ps_bq fun _ => (by first | exact hK _ _ _ _ hG | exact hK _ _ _ _ (hi _ _ _) | exact hK _ _ _ _ (hj _ _ _) | exact hK _ _ _ _ (hc _ _ _ _ _) | exact hK _ _ _ _ (hr (hal rfl) _ _ _) | exact hK _ _ _ _ (hm (hal rfl) _ _) | exact hK _ _ _ _ (hw (hal rfl) _ _ _ _))
      all_goals exact am_ps_no
  case putfield k =>
    rcases st with _ | ⟨v, _ | ⟨w, st⟩⟩
    · exact am_ps_no
    · cases v <;> exact am_ps_no
    · cases v
      case int x =>
        cases w
        case ref a =>
          refine am_ps_ite ?_ am_ps_no
          generalize k % 4 = q
          rcases q with _ | _ | _ | _ | q
          · exact (by first | exact hK _ _ _ _ hG | exact hK _ _ _ _ (hi _ _ _) | exact hK _ _ _ _ (hj _ _ _) | exact hK _ _ _ _ (hc _ _ _ _ _) | exact hK _ _ _ _ (hr (hal rfl) _ _ _) | exact hK _ _ _ _ (hm (hal rfl) _ _) | exact hK _ _ _ _ (hw (hal rfl) _ _ _ _))
          · exact am_ps_no
          · exact am_ps_no
          · exact am_ps_ite (by first | exact hK _ _ _ _ hG | exact hK _ _ _ _ (hi _ _ _) | exact hK _ _ _ _ (hj _ _ _) | exact hK _ _ _ _ (hc _ _ _ _ _) | exact hK _ _ _ _ (hr (hal rfl) _ _ _) | exact hK _ _ _ _ (hm (hal rfl) _ _) | exact hK _ _ _ _ (hw (hal rfl) _ _ _ _)) am_ps_no
          · exact am_ps_no
        all_goals exact am_ps_no
      case long x =>
        cases w
        case ref a =>
          refine am_ps_ite ?_ am_ps_no
          generalize k % 4 = q
          rcases q with _ | _ | q
          · exact am_ps_no
          · exact (by first | exact hK _ _ _ _ hG | exact hK _ _ _ _ (hi _ _ _) | exact hK _ _ _ _ (hj _ _ _) | exact hK _ _ _ _ (hc _ _ _ _ _) | exact hK _ _ _ _ (hr (hal rfl) _ _ _) | exact hK _ _ _ _ (hm (hal rfl) _ _) | exact hK _ _ _ _ (hw (hal rfl) _ _ _ _))
          · exact am_ps_no
        all_goals exact am_ps_no
      case ref x =>
        cases w
        case ref a =>
          refine am_ps_ite ?_ am_ps_no
          have hal : Nat.beq (k % 4) 2 = true → al = true := hal
          revert hal
          generalize k % 4 = q
          intro hal
          rcases q with _ | _ | _ | q
          · exact am_ps_no
          · exact am_ps_no
          · exact am_ps_ite (by first | exact hK _ _ _ _ hG | exact hK _ _ _ _ (hi _ _ _) | exact hK _ _ _ _ (hj _ _ _) | exact hK _ _ _ _ (hc _ _ _ _ _) | exact hK _ _ _ _ (hr (hal rfl) _ _ _) | exact hK _ _ _ _ (hm (hal rfl) _ _) | exact hK _ _ _ _ (hw (hal rfl) _ _ _ _)) am_ps_no
          · exact am_ps_no
        all_goals exact am_ps_no
      all_goals exact am_ps_no
  case newarray t =>
    rcases st with _ | ⟨v, st⟩
    · exact am_ps_no
    · cases v
      case int x =>
        refine am_ps_ite am_ps_no ?_
        cases t <;> first | exact (by first | exact hK _ _ _ _ hG | exact hK _ _ _ _ (hi _ _ _) | exact hK _ _ _ _ (hj _ _ _) | exact hK _ _ _ _ (hc _ _ _ _ _) | exact hK _ _ _ _ (hr (hal rfl) _ _ _) | exact hK _ _ _ _ (hm (hal rfl) _ _) | exact hK _ _ _ _ (hw (hal rfl) _ _ _ _)) | exact am_ps_no
      all_goals exact am_ps_no
  case multianewarray k e =>
    rcases st with _ | ⟨v, _ | ⟨w, st⟩⟩
    · exact am_ps_no
    · cases v <;> exact am_ps_no
    · cases v
      case int y =>
        cases w
        case int x =>
          refine am_ps_ite am_ps_no ?_
          rcases k with _ | _ | k
          · exact (by first | exact hK _ _ _ _ hG | exact hK _ _ _ _ (hi _ _ _) | exact hK _ _ _ _ (hj _ _ _) | exact hK _ _ _ _ (hc _ _ _ _ _) | exact hK _ _ _ _ (hr (hal rfl) _ _ _) | exact hK _ _ _ _ (hm (hal rfl) _ _) | exact hK _ _ _ _ (hw (hal rfl) _ _ _ _))
          · exact (by first | exact hK _ _ _ _ hG | exact hK _ _ _ _ (hi _ _ _) | exact hK _ _ _ _ (hj _ _ _) | exact hK _ _ _ _ (hc _ _ _ _ _) | exact hK _ _ _ _ (hr (hal rfl) _ _ _) | exact hK _ _ _ _ (hm (hal rfl) _ _) | exact hK _ _ _ _ (hw (hal rfl) _ _ _ _))
          · exact am_ps_no
        all_goals exact am_ps_no
      all_goals exact am_ps_no
  case invokestatic y =>
    refine am_ps_ite ?_ am_ps_no
    generalize (pg_sg y).2 = q
    rcases q with _ | _ | _ | q
    · exact am_ps_bV (fun S1 h1 => hK _ _ _ _ (hf _ _ _ _ h1))
    · exact am_ps_bI (fun x S1 h1 => hK _ _ _ _ (hf _ _ _ _ h1))
    · exact am_ps_bJ (fun x S1 h1 => hK _ _ _ _ (hf _ _ _ _ h1))
    · exact am_ps_bA (fun x S1 h1 => hK _ _ _ _ (hf _ _ _ _ h1))
  case invokespecial y => exact am_ps_ite (am_ps_bV (fun S1 h1 => hK _ _ _ _ (hf _ _ _ _ h1))) am_ps_no
  case ireturn => rcases st with _ | ⟨v, _ | ⟨w, st⟩⟩ <;> (try cases v) <;> first | exact am_ps_no | exact am_ps_ret h0
  case freturn => rcases st with _ | ⟨v, _ | ⟨w, st⟩⟩ <;> (try cases v) <;> first | exact am_ps_no | exact am_ps_ite (am_ps_ret h0) am_ps_no
  case lreturn => rcases st with _ | ⟨v, _ | ⟨w, st⟩⟩ <;> (try cases v) <;> first | exact am_ps_no | exact am_ps_ret h0
  case areturn => rcases st with _ | ⟨v, _ | ⟨w, st⟩⟩ <;> (try cases v) <;> first | exact am_ps_no | exact am_ps_ite (am_ps_ret h0) am_ps_no
  case return_ => rcases st with _ | ⟨v, st⟩ <;> first | exact am_ps_no | exact am_ps_ret h0
  case new k => exact am_ps_ite (by first | exact hK _ _ _ _ hG | exact hK _ _ _ _ (hi _ _ _) | exact hK _ _ _ _ (hj _ _ _) | exact hK _ _ _ _ (hc _ _ _ _ _) | exact hK _ _ _ _ (hr (hal rfl) _ _ _) | exact hK _ _ _ _ (hm (hal rfl) _ _) | exact hK _ _ _ _ (hw (hal rfl) _ _ _ _)) am_ps_no
  case iload k =>
    have e : ∀ v, am_nth lo k = v → am_Ps Qr (am_stp f K (.iload k) i lo st S) := by
      intro v hv
      simp only [am_stp, hv]
      cases v <;> first | exact (by first | exact hK _ _ _ _ hG | exact hK _ _ _ _ (hi _ _ _) | exact hK _ _ _ _ (hj _ _ _) | exact hK _ _ _ _ (hc _ _ _ _ _) | exact hK _ _ _ _ (hr (hal rfl) _ _ _) | exact hK _ _ _ _ (hm (hal rfl) _ _) | exact hK _ _ _ _ (hw (hal rfl) _ _ _ _)) | exact am_ps_no
    exact e _ rfl
  case lload k =>
    have e : ∀ v, am_nth lo k = v → am_Ps Qr (am_stp f K (.lload k) i lo st S) := by
      intro v hv
      simp only [am_stp, hv]
      cases v <;> first | exact (by first | exact hK _ _ _ _ hG | exact hK _ _ _ _ (hi _ _ _) | exact hK _ _ _ _ (hj _ _ _) | exact hK _ _ _ _ (hc _ _ _ _ _) | exact hK _ _ _ _ (hr (hal rfl) _ _ _) | exact hK _ _ _ _ (hm (hal rfl) _ _) | exact hK _ _ _ _ (hw (hal rfl) _ _ _ _)) | exact am_ps_no
    exact e _ rfl
  case aload k =>
    have e : ∀ v, am_nth lo k = v → am_Ps Qr (am_stp f K (.aload k) i lo st S) := by
      intro v hv
      simp only [am_stp, hv]
      cases v <;> first | exact (by first | exact hK _ _ _ _ hG | exact hK _ _ _ _ (hi _ _ _) | exact hK _ _ _ _ (hj _ _ _) | exact hK _ _ _ _ (hc _ _ _ _ _) | exact hK _ _ _ _ (hr (hal rfl) _ _ _) | exact hK _ _ _ _ (hm (hal rfl) _ _) | exact hK _ _ _ _ (hw (hal rfl) _ _ _ _)) | exact am_ps_no
    exact e _ rfl
  case iinc k c =>
    have e : ∀ v, am_nth lo k = v → am_Ps Qr (am_stp f K (.iinc k c) i lo st S) := by
      intro v hv
      simp only [am_stp, hv]
      cases v <;> first | exact (by first | exact hK _ _ _ _ hG | exact hK _ _ _ _ (hi _ _ _) | exact hK _ _ _ _ (hj _ _ _) | exact hK _ _ _ _ (hc _ _ _ _ _) | exact hK _ _ _ _ (hr (hal rfl) _ _ _) | exact hK _ _ _ _ (hm (hal rfl) _ _) | exact hK _ _ _ _ (hw (hal rfl) _ _ _ _)) | exact am_ps_no
    exact e _ rfl
  all_goals first
    | exact am_ps_no
    | exact (by first | exact hK _ _ _ _ hG | exact hK _ _ _ _ (hi _ _ _) | exact hK _ _ _ _ (hj _ _ _) | exact hK _ _ _ _ (hc _ _ _ _ _) | exact hK _ _ _ _ (hr (hal rfl) _ _ _) | exact hK _ _ _ _ (hm (hal rfl) _ _) | exact hK _ _ _ _ (hw (hal rfl) _ _ _ _))
    | skip
  all_goals (rcases st with _ | ⟨v1, st⟩ <;> first | exact am_ps_no | skip)
  all_goals (first | exact am_ps_ite (by first | exact hK _ _ _ _ hG | exact hK _ _ _ _ (hi _ _ _) | exact hK _ _ _ _ (hj _ _ _) | exact hK _ _ _ _ (hc _ _ _ _ _) | exact hK _ _ _ _ (hr (hal rfl) _ _ _) | exact hK _ _ _ _ (hm (hal rfl) _ _) | exact hK _ _ _ _ (hw (hal rfl) _ _ _ _)) am_ps_no | (cases v1 <;> first | exact am_ps_no | exact (by first | exact hK _ _ _ _ hG | exact hK _ _ _ _ (hi _ _ _) | exact hK _ _ _ _ (hj _ _ _) | exact hK _ _ _ _ (hc _ _ _ _ _) | exact hK _ _ _ _ (hr (hal rfl) _ _ _) | exact hK _ _ _ _ (hm (hal rfl) _ _) | exact hK _ _ _ _ (hw (hal rfl) _ _ _ _)) | exact am_ps_br (by first | exact hK _ _ _ _ hG | exact hK _ _ _ _ (hi _ _ _) | exact hK _ _ _ _ (hj _ _ _) | exact hK _ _ _ _ (hc _ _ _ _ _) | exact hK _ _ _ _ (hr (hal rfl) _ _ _) | exact hK _ _ _ _ (hm (hal rfl) _ _) | exact hK _ _ _ _ (hw (hal rfl) _ _ _ _)) (by first | exact hK _ _ _ _ hG | exact hK _ _ _ _ (hi _ _ _) | exact hK _ _ _ _ (hj _ _ _) | exact hK _ _ _ _ (hc _ _ _ _ _) | exact hK _ _ _ _ (hr (hal rfl) _ _ _) | exact hK _ _ _ _ (hm (hal rfl) _ _) | exact hK _ _ _ _ (hw (hal rfl) _ _ _ _)) | exact am_ps_sw (by first | exact hK _ _ _ _ hG | exact hK _ _ _ _ (hi _ _ _) | exact hK _ _ _ _ (hj _ _ _) | exact hK _ _ _ _ (hc _ _ _ _ _) | exact hK _ _ _ _ (hr (hal rfl) _ _ _) | exact hK _ _ _ _ (hm (hal rfl) _ _) | exact hK _ _ _ _ (hw (hal rfl) _ _ _ _)) (fun _ => (by first | exact hK _ _ _ _ hG | exact hK _ _ _ _ (hi _ _ _) | exact hK _ _ _ _ (hj _ _ _) | exact hK _ _ _ _ (hc _ _ _ _ _) | exact hK _ _ _ _ (hr (hal rfl) _ _ _) | exact hK _ _ _ _ (hm (hal rfl) _ _) | exact hK _ _ _ _ (hw (hal rfl) _ _ _ _))) _ _ | exact am_ps_lk (by first | exact hK _ _ _ _ hG | exact hK _ _ _ _ (hi _ _ _) | exact hK _ _ _ _ (hj _ _ _) | exact hK _ _ _ _ (hc _ _ _ _ _) | exact hK _ _ _ _ (hr (hal rfl) _ _ _) | exact hK _ _ _ _ (hm (hal rfl) _ _) | exact hK _ _ _ _ (hw (hal rfl) _ _ _ _)) (fun _ => (by first | exact hK _ _ _ _ hG | exact hK _ _ _ _ (hi _ _ _) | exact hK _ _ _ _ (hj _ _ _) | exact hK _ _ _ _ (hc _ _ _ _ _) | exact hK _ _ _ _ (hr (hal rfl) _ _ _) | exact hK _ _ _ _ (hm (hal rfl) _ _) | exact hK _ _ _ _ (hw (hal rfl) _ _ _ _))) _ | exact am_ps_ite (by first | exact hK _ _ _ _ hG | exact hK _ _ _ _ (hi _ _ _) | exact hK _ _ _ _ (hj _ _ _) | exact hK _ _ _ _ (hc _ _ _ _ _) | exact hK _ _ _ _ (hr (hal rfl) _ _ _) | exact hK _ _ _ _ (hm (hal rfl) _ _) | exact hK _ _ _ _ (hw (hal rfl) _ _ _ _)) am_ps_no | exact am_ps_ite am_ps_no (by first | exact hK _ _ _ _ hG | exact hK _ _ _ _ (hi _ _ _) | exact hK _ _ _ _ (hj _ _ _) | exact hK _ _ _ _ (hc _ _ _ _ _) | exact hK _ _ _ _ (hr (hal rfl) _ _ _) | exact hK _ _ _ _ (hm (hal rfl) _ _) | exact hK _ _ _ _ (hw (hal rfl) _ _ _ _)) | skip) | skip)
  all_goals (rcases st with _ | ⟨v2, st⟩ <;> first | exact am_ps_no | skip)
  all_goals (first | exact am_ps_ite (by first | exact hK _ _ _ _ hG | exact hK _ _ _ _ (hi _ _ _) | exact hK _ _ _ _ (hj _ _ _) | exact hK _ _ _ _ (hc _ _ _ _ _) | exact hK _ _ _ _ (hr (hal rfl) _ _ _) | exact hK _ _ _ _ (hm (hal rfl) _ _) | exact hK _ _ _ _ (hw (hal rfl) _ _ _ _)) am_ps_no | (cases v2 <;> first | exact am_ps_no | exact (by first | exact hK _ _ _ _ hG | exact hK _ _ _ _ (hi _ _ _) | exact hK _ _ _ _ (hj _ _ _) | exact hK _ _ _ _ (hc _ _ _ _ _) | exact hK _ _ _ _ (hr (hal rfl) _ _ _) | exact hK _ _ _ _ (hm (hal rfl) _ _) | exact hK _ _ _ _ (hw (hal rfl) _ _ _ _)) | exact am_ps_br (by first | exact hK _ _ _ _ hG | exact hK _ _ _ _ (hi _ _ _) | exact hK _ _ _ _ (hj _ _ _) | exact hK _ _ _ _ (hc _ _ _ _ _) | exact hK _ _ _ _ (hr (hal rfl) _ _ _) | exact hK _ _ _ _ (hm (hal rfl) _ _) | exact hK _ _ _ _ (hw (hal rfl) _ _ _ _)) (by first | exact hK _ _ _ _ hG | exact hK _ _ _ _ (hi _ _ _) | exact hK _ _ _ _ (hj _ _ _) | exact hK _ _ _ _ (hc _ _ _ _ _) | exact hK _ _ _ _ (hr (hal rfl) _ _ _) | exact hK _ _ _ _ (hm (hal rfl) _ _) | exact hK _ _ _ _ (hw (hal rfl) _ _ _ _)) | exact am_ps_ite (by first | exact hK _ _ _ _ hG | exact hK _ _ _ _ (hi _ _ _) | exact hK _ _ _ _ (hj _ _ _) | exact hK _ _ _ _ (hc _ _ _ _ _) | exact hK _ _ _ _ (hr (hal rfl) _ _ _) | exact hK _ _ _ _ (hm (hal rfl) _ _) | exact hK _ _ _ _ (hw (hal rfl) _ _ _ _)) am_ps_no | exact am_ps_ite am_ps_no (by first | exact hK _ _ _ _ hG | exact hK _ _ _ _ (hi _ _ _) | exact hK _ _ _ _ (hj _ _ _) | exact hK _ _ _ _ (hc _ _ _ _ _) | exact hK _ _ _ _ (hr (hal rfl) _ _ _) | exact hK _ _ _ _ (hm (hal rfl) _ _) | exact hK _ _ _ _ (hw (hal rfl) _ _ _ _)) | exact am_ps_ite (am_ps_ite am_ps_no (by first | exact hK _ _ _ _ hG | exact hK _ _ _ _ (hi _ _ _) | exact hK _ _ _ _ (hj _ _ _) | exact hK _ _ _ _ (hc _ _ _ _ _) | exact hK _ _ _ _ (hr (hal rfl) _ _ _) | exact hK _ _ _ _ (hm (hal rfl) _ _) | exact hK _ _ _ _ (hw (hal rfl) _ _ _ _))) am_ps_no | exact am_ps_ite (am_ps_ite am_ps_no (am_ps_bq fun _ => (by first | exact hK _ _ _ _ hG | exact hK _ _ _ _ (hi _ _ _) | exact hK _ _ _ _ (hj _ _ _) | exact hK _ _ _ _ (hc _ _ _ _ _) | exact hK _ _ _ _ (hr (hal rfl) _ _ _) | exact hK _ _ _ _ (hm (hal rfl) _ _) | exact hK _ _ _ _ (hw (hal rfl) _ _ _ _)))) am_ps_no | skip) | skip)
  all_goals (rcases st with _ | ⟨v3, st⟩ <;> first | exact am_ps_no | skip)
  all_goals (cases v3 <;> first | exact am_ps_no | exact am_ps_ite (am_ps_ite am_ps_no (by first | exact hK _ _ _ _ hG | exact hK _ _ _ _ (hi _ _ _) | exact hK _ _ _ _ (hj _ _ _) | exact hK _ _ _ _ (hc _ _ _ _ _) | exact hK _ _ _ _ (hr (hal rfl) _ _ _) | exact hK _ _ _ _ (hm (hal rfl) _ _) | exact hK _ _ _ _ (hw (hal rfl) _ _ _ _))) am_ps_no | skip)
  all_goals (rcases st with _ | ⟨v4, st⟩ <;> first | exact am_ps_no | skip)
  all_goals (cases v4 <;> first | exact am_ps_no | skip)
  all_goals (rcases st with _ | ⟨v5, st⟩ <;> first | exact am_ps_no | skip)
  all_goals (cases v5 <;> first | exact am_ps_no | exact am_ps_ite (am_ps_ite am_ps_no (by first | exact hK _ _ _ _ hG | exact hK _ _ _ _ (hi _ _ _) | exact hK _ _ _ _ (hj _ _ _) | exact hK _ _ _ _ (hc _ _ _ _ _) | exact hK _ _ _ _ (hr (hal rfl) _ _ _) | exact hK _ _ _ _ (hm (hal rfl) _ _) | exact hK _ _ _ _ (hw (hal rfl) _ _ _ _))) am_ps_no)

end PS
