/-! ===== THE SMALL MACHINE'S RUN IS THE MACHINE'S (by program: wip/whole/gen/snd.py) ===== -/
theorem am_mono {f : Nat → List Value → am_S → am_R} (hf : ∀ z as S v S', f z as S = some (v, S') → am_n S ≤ am_n S' ∧ am_w S ≤ am_w S') (y : Nat) : ∀ (n i : Nat) (lo st : List Value) (S : am_S) (r : Option Value × am_S), am_run f y n i lo st S = some r → am_n S ≤ am_n r.2 ∧ am_w S ≤ am_w r.2
  | 0, _, _, _, _, _, h => am_noh h
  | n + 1, i, lo, st, S, r, h => by
    have rw1 : ∀ (a c m : Nat) (k p : Nat) (S : am_S), am_n S ≤ am_n (am_rows a c m k p S) ∧ am_w S ≤ am_w (am_rows a c m k p S) := by
      intro a c m k
      induction k with
      | zero => intro p S; exact ⟨Nat.le_refl _, Nat.le_refl _⟩
      | succ k ih =>
        intro p S
        have h1 := ih (p + 1) (am_pr (am_mk S c m) a p (am_n S))
        have e1 : am_n (am_pr (am_mk S c m) a p (am_n S)) = am_n S + 1 := rfl
        have e2 : am_w (am_pr (am_mk S c m) a p (am_n S)) = am_w S + m := rfl
        rw [e1, e2] at h1
        exact ⟨by have := h1.1; show am_n S ≤ am_n (am_rows a c m k (p + 1) _); omega, by have := h1.2; show am_w S ≤ am_w (am_rows a c m k (p + 1) _); omega⟩
    refine am_pres (Qr := fun T => am_n S ≤ am_n T ∧ am_w S ≤ am_w T) (G := fun T => am_n S ≤ am_n T ∧ am_w S ≤ am_w T) (K := am_run f y n) (f := f) (al := true) (fun i' lo' st' S' hS' r' h' => ?_) ⟨Nat.le_refl _, Nat.le_refl _⟩ ⟨Nat.le_refl _, Nat.le_refl _⟩ (fun _ _ _ => ⟨Nat.le_refl _, Nat.le_refl _⟩) (fun _ _ _ => ⟨Nat.le_refl _, Nat.le_refl _⟩) (fun _ _ _ _ _ => ⟨Nat.le_refl _, Nat.le_refl _⟩) (fun _ _ _ _ => ⟨Nat.le_refl _, Nat.le_refl _⟩) (fun _ c m => ⟨Nat.le_succ _, Nat.le_add_right _ _⟩) (fun _ c1 n1 c m => ?_) (fun z as v S' h' => hf z as S v S' h') (pg_cd y i) (fun _ => rfl) i (am_kil y i lo) st r h
    · have := am_mono hf y n i' lo' st' S' r' h'
      exact ⟨Nat.le_trans hS'.1 this.1, Nat.le_trans hS'.2 this.2⟩
    · have := rw1 (am_n S) c m n1 0 (am_mk S c1 n1)
      exact ⟨Nat.le_trans (Nat.le_succ _) this.1, Nat.le_trans (Nat.le_add_right _ _) this.2⟩
section SND
variable {p : Program} {l : Launch} {e : Env} {R : Room} {s : State} {m : MethodId} {args : Array Value} {below : List Frame} {meth : Method} {c : Code} {Q : State → Prop}
variable {A : Nat → Prop} {D : va_G} {dA : Nat → ClassId} {adV : Nat → Nat} {L : Nat} {xs : Nat → Int32}
/-- an array's kind: its place among the tables' arrays -/
theorem am_kty {k : Nat} (hk : am_vk k) (h : 103 ≤ k) : ∃ (t0 : Nat) (ty : FieldType), (am_tys dA)[t0]? = some (dA k, ty) ∧ ty.isReference = true ∧ (∀ v, k = 103 + v → v < 13 → ty = .object (am_on v)) := by
  unfold am_vk at hk
  rcases hk with h1 | rfl | rfl | rfl | rfl | rfl | rfl | rfl | rfl | rfl
  · omega
  · omega
  · omega
  · omega
  · exact ⟨3, _, rfl, rfl, fun v e _ => by obtain rfl : v = 1 := by omega
                                           rfl⟩
  · exact ⟨4, _, rfl, rfl, fun v e _ => by obtain rfl : v = 2 := by omega
                                           rfl⟩
  · exact ⟨5, _, rfl, rfl, fun v e _ => by obtain rfl : v = 7 := by omega
                                           rfl⟩
  · exact ⟨6, _, rfl, rfl, fun v e _ => by obtain rfl : v = 9 := by omega
                                           rfl⟩
  · exact ⟨7, _, rfl, rfl, fun v e _ => by omega⟩
  · exact ⟨8, _, rfl, rfl, fun v e _ => by omega⟩
theorem am_kt1 {k : Nat} (hk : am_vk k) (h : 100 ≤ k) : ∃ (t0 : Nat) (ty : FieldType), (am_tys dA)[t0]? = some (dA k, ty) := by
  unfold am_vk at hk
  rcases hk with h1 | rfl | rfl | rfl | rfl | rfl | rfl | rfl | rfl | rfl
  · omega
  · exact ⟨0, _, rfl⟩
  · exact ⟨1, _, rfl⟩
  · exact ⟨2, _, rfl⟩
  · exact ⟨3, _, rfl⟩
  · exact ⟨4, _, rfl⟩
  · exact ⟨5, _, rfl⟩
  · exact ⟨6, _, rfl⟩
  · exact ⟨7, _, rfl⟩
  · exact ⟨8, _, rfl⟩
set_option maxHeartbeats 16000000 in
set_option maxRecDepth 100000 in
theorem am_go {y : Nat} (hC : am_Cx p s m args meth c A D dA y) (hchk : am_chk y = true) {f : Nat → List Value → am_S → am_R} {d : Nat} (hf : ∀ z as S v S', f z as S = some (v, S') → am_M l d z as S v S') (hmo : ∀ z as S v S', f z as S = some (v, S') → am_n S ≤ am_n S' ∧ am_w S ≤ am_w S')
    (hnc : ∀ z as S v S', am_cok z true = true ∨ (am_cok z false = true ∧ ((pg_nm z).name != "<init>") = true) → f z as S = some (v, S') → am_n S' = am_n S)
    (hrc : ∀ z as S v S', f z as S = some (v, S') → pg_is z = false → ∃ b As, as = .ref b :: As ∧ am_c S b = pg_ow z)
    (hL31 : L < 2 ^ 31) (hstr : am_Str l) (hR1 : d + 9 ≤ R.frames) (hR2 : 64 * (d + 9) ≤ R.locals) {r : Option Value × am_S} {n0 w0 : Nat} (hRc : am_n r.2 - n0 ≤ R.cells) (hRs : am_w r.2 - w0 ≤ R.slots) {ad0 : Nat → Nat}
    (hI : ∀ pc ad H locs ls lo x, decode (pg_by y) pc = .ok (.ireturn, 1) → pg_rt y = some .int → r.1 = some (.int x) → am_ag n0 ad0 ad → am_Pt s A D dA adV L xs y ad r.2 H locs ls lo → W p l e R s m args below meth c H locs (am_n r.2 - n0) (am_w r.2 - w0) Q (F0 m pc ls [.int x]))
    (hZ : ∀ pc ad H locs ls lo x, decode (pg_by y) pc = .ok (.ireturn, 1) → pg_rt y = some .boolean → (x = 0 ∨ x = 1) → r.1 = some (.int x) → am_ag n0 ad0 ad → am_Pt s A D dA adV L xs y ad r.2 H locs ls lo → W p l e R s m args below meth c H locs (am_n r.2 - n0) (am_w r.2 - w0) Q (F0 m pc ls [.int x]))
    (hJ : ∀ pc ad H locs ls lo x, decode (pg_by y) pc = .ok (.lreturn, 1) → pg_rt y = some .long → r.1 = some (.long x) → am_ag n0 ad0 ad → am_Pt s A D dA adV L xs y ad r.2 H locs ls lo → W p l e R s m args below meth c H locs (am_n r.2 - n0) (am_w r.2 - w0) Q (F0 m pc ls [.long x]))
    (hO : ∀ pc ad H locs ls lo x, decode (pg_by y) pc = .ok (.areturn, 1) → (∃ t, pg_rt y = some (.object t)) → 2000000 ≤ x → r.1 = some (.ref x) → am_ag n0 ad0 ad → am_Pt s A D dA adV L xs y ad r.2 H locs ls lo → W p l e R s m args below meth c H locs (am_n r.2 - n0) (am_w r.2 - w0) Q (F0 m pc ls [.ref (ad x)]))
    (hV : ∀ pc ad H locs ls lo, decode (pg_by y) pc = .ok (.return_, 1) → pg_rt y = none → r.1 = none → am_ag n0 ad0 ad → am_Pt s A D dA adV L xs y ad r.2 H locs ls lo → W p l e R s m args below meth c H locs (am_n r.2 - n0) (am_w r.2 - w0) Q (F0 m pc ls [])) :
    ∀ (n i : Nat) (lo st : List Value) (S : am_S), am_run f y n i lo st S = some r → ∀ (pc : Nat) (ad : Nat → Nat) (H : Heap) (locs : List Loc) (ls : Array Slot), pc = am_P y i → n0 ≤ am_n S → w0 ≤ am_w S → am_ag n0 ad0 ad → am_Pt s A D dA adV L xs y ad S H locs ls lo →
      W p l e R s m args below meth c H locs (am_n S - n0) (am_w S - w0) Q (F0 m pc ls (st.map (am_tr ad))) := by
  obtain ⟨hx, hb, hml, hown, hts, hK, hNW, hA, hnm⟩ := id hC
  have hin : ∀ {w : Cond}, w ∈ lw_tbl → goodWord w = true → w.before args s = true := fun h1 h2 => hts _ (lw_gw_in h1 h2)
  intro n
  induction n with
  | zero => intro i lo st S h; exact am_noh h
  | succ n ih =>
    intro i lo st S h pc ad H locs ls hpc hn0 hw0 hag hPt
    subst hpc
    obtain ⟨hP, hD, hS, hIv, hE, hl⟩ := hPt
    replace h : am_stp f (am_run f y n) (pg_cd y i) i (am_kil y i lo) st S = some r := h
    replace hl := hl.kil y i
    generalize am_kil y i lo = lo at h hl
    have go : ∀ {i' : Nat} {lo' st' : List Value} {S' : am_S} {pc' : Nat} {ad' : Nat → Nat} {H' : Heap} {locs' : List Loc} {ls' : Array Slot}, am_run f y n i' lo' st' S' = some r → pc' = am_P y i' → am_n S ≤ am_n S' → am_w S ≤ am_w S' → am_ag (am_n S) ad ad' → va_P D vwCl (am_wd dA ad' S') H' → va_D A (am_wd dA ad' S') → va_S A s.heap H' locs' → am_Iv L xs S' → am_has ad' ls' (pg_mx y) lo' →
        W p l e R s m args below meth c H' locs' (am_n S' - n0) (am_w S' - w0) Q (F0 m pc' ls' (st'.map (am_tr ad'))) :=
      fun h1 h2 h3 h4 h5 h6 h7 h8 h9 h10 => ih _ _ _ _ h1 _ _ _ _ _ h2 (Nat.le_trans hn0 h3) (Nat.le_trans hw0 h4) (hag.tr h5 hn0) ⟨h6, h7, h8, h9, hE.ag h5, h10⟩
    have gos : ∀ {i' : Nat} {lo' st' : List Value} {pc' : Nat} {ls' : Array Slot}, am_run f y n i' lo' st' S = some r → pc' = am_P y i' → am_has ad ls' (pg_mx y) lo' →
        W p l e R s m args below meth c H locs (am_n S - n0) (am_w S - w0) Q (F0 m pc' ls' (st'.map (am_tr ad))) :=
      fun h1 h2 h3 => go h1 h2 (Nat.le_refl _) (Nat.le_refl _) am_ag.rf hP hD hS hIv h3
    have hPt' : am_Pt s A D dA adV L xs y ad S H locs ls lo := ⟨hP, hD, hS, hIv, hE, hl⟩
    by_cases hnop : pg_cd y i = .nop
    · rw [hnop] at h; exact am_noh h
    obtain ⟨hd, hk, he⟩ := am_chk_f hchk rfl hnop
    generalize pg_cd y i = ins at h hd hk he
    generalize am_q y i = q at hd hk he
    obtain ⟨q1, q2⟩ := q
    replace he := he.symm
    cases ins
    case iconst v =>
      obtain ⟨hk0, hk1⟩ := Bool.and_eq_true_iff.mp hk
      have hk0 := of_decide_eq_true hk0
      rcases q1 with _ | _ | _ | _ | q1
      · refine lv_iconst (v := nI v.toNat) hx hb hd (am_of1 hk0) ?_
        exact gos h he hl
      · have hk1 := of_decide_eq_true hk1
        refine lv_bipush (v := nI v.toNat) hx hb hd ((am_of8 (by omega) (by omega)).trans (am_of1 hk0)) ?_
        exact gos h he hl
      · have hk1 := of_decide_eq_true hk1
        refine lv_sipush (v := nI v.toNat) hx hb hd ((am_of16 (by omega) (by omega)).trans (am_of1 hk0)) ?_
        exact gos h he hl
      · have hc := hin (lk_c_ok (pg_ow y, q2, v) (by simpa using hk1)) rfl
        refine lv_ldc (v := nI v.toNat) hx hb hown (am_of1 hk0 ▸ hc) hd ?_
        exact gos h he hl
      · have hc := hin (lk_c_ok (pg_ow y, q2, v) (by simpa using hk1)) rfl
        refine lv_ldcw (v := nI v.toNat) hx hb hown (am_of1 hk0 ▸ hc) hd ?_
        exact gos h he hl
    case bipush v =>
      obtain ⟨hk0, hk1⟩ := Bool.and_eq_true_iff.mp hk
      have hk0 := of_decide_eq_true hk0
      rcases q1 with _ | _ | _ | _ | q1
      · refine lv_iconst (v := Int32.ofInt v) hx hb hd (rfl) ?_
        exact gos h he hl
      · have hk1 := of_decide_eq_true hk1
        refine lv_bipush (v := Int32.ofInt v) hx hb hd (am_of8 (by omega) (by omega)) ?_
        exact gos h he hl
      · have hk1 := of_decide_eq_true hk1
        refine lv_sipush (v := Int32.ofInt v) hx hb hd (am_of16 (by omega) (by omega)) ?_
        exact gos h he hl
      · have hc := hin (lk_c_ok (pg_ow y, q2, v) (by simpa using hk1)) rfl
        refine lv_ldc (v := Int32.ofInt v) hx hb hown (hc) hd ?_
        exact gos h he hl
      · have hc := hin (lk_c_ok (pg_ow y, q2, v) (by simpa using hk1)) rfl
        refine lv_ldcw (v := Int32.ofInt v) hx hb hown (hc) hd ?_
        exact gos h he hl
    case goto_w v =>
      obtain ⟨hk0, hk1⟩ := Bool.and_eq_true_iff.mp hk
      have hk0 := of_decide_eq_true hk0
      rcases q1 with _ | q1
      · have hk1 := of_decide_eq_true hk1
        refine lv_lconst (v := lN v.toNat) hx hb hd ?_ ?_
        · show Int64.ofNat (v.toNat % 2) = Int64.ofNat v.toNat
          rw [Nat.mod_eq_of_lt (by omega)]
        · exact gos h he hl
      · have hc := hin (lk_l_ok (pg_ow y, q2, v) (by simpa using hk1)) rfl
        refine lv_ldc2 (v := lN v.toNat) hx hb hown (am_of1L hk0 ▸ hc) hd ?_
        exact gos h he hl
    case jsr_w v =>
      have hk : lk_l.contains (pg_ow y, q2, v) = true := hk
      have hc := hin (lk_l_ok (pg_ow y, q2, v) (by simpa using hk)) rfl
      refine lv_ldc2 (v := Int64.ofInt v) hx hb hown hc hd ?_
      exact gos h he hl
    case ldc k =>
      have hk : lk_s.contains (pg_ow y, q2, k) = true := hk
      have hm : (pg_ow y, q2, k) ∈ lk_s := am_mem_lk hk
      refine va_ldcS hx hb hown (hE.2.2.2.1 _ hm) hd ?_
      exact gos h he hl
    case getstatic k =>
      obtain ⟨hk0, hk1⟩ := Bool.and_eq_true_iff.mp hk
      have hk1 := of_decide_eq_true hk1
      have hk0 : lk_g.contains (pg_ow y, q2, k) = true := hk0
      have hm : (pg_ow y, q2, k) ∈ lk_g := am_mem_lk hk0
      have hc := hin (lk_g_ok _ hm) rfl
      have hk4 : k < 4 := lk_g_4 _ hm
      refine va_gets hx hb (hE.1 k hk4) hS hown hc (fun _ h9 => h9) hd ?_
      exact gos h he hl
    case iload k =>
      have h : (match am_nth lo k with | .int x => am_run f y n (i + 1) lo (.int x :: st) S | _ => none) = some r := h
      cases hv : am_nth lo k <;> rw [hv] at h
      case int x =>
        have ha := hl.at hv (by intro z; cases z)
        rcases q1 with _ | q1
        · refine lv_iload hx hb hd ha ?_
          exact gos h he hl
        · have hk := of_decide_eq_true hk
          refine lv_iload_n hx hb hd (i := k) (by show k % 4 = k; omega) ha ?_
          exact gos h he hl
      all_goals exact am_noh h
    case lload k =>
      have h : (match am_nth lo k with | .long x => am_run f y n (i + 1) lo (.long x :: st) S | _ => none) = some r := h
      cases hv : am_nth lo k <;> rw [hv] at h
      case long x =>
        have ha := hl.at hv (by intro z; cases z)
        rcases q1 with _ | q1
        · refine lv_lload hx hb hd ha ?_
          exact gos h he hl
        · have hk := of_decide_eq_true hk
          refine lv_lload_n hx hb hd (i := k) (by show k % 4 = k; omega) ha ?_
          exact gos h he hl
      all_goals exact am_noh h
    case aload k =>
      have h : (match am_nth lo k with | .ref x => am_run f y n (i + 1) lo (.ref x :: st) S | _ => none) = some r := h
      cases hv : am_nth lo k <;> rw [hv] at h
      case ref x =>
        have ha := hl.at hv (by intro z; cases z)
        rcases q1 with _ | q1
        · refine lv_aload hx hb hd ha ?_
          exact gos h he hl
        · have hk := of_decide_eq_true hk
          refine lv_aload_n hx hb hd (i := k) (by show k % 4 = k; omega) ha ?_
          exact gos h he hl
      all_goals exact am_noh h
    case istore k =>
      rcases st with _ | ⟨v0, st⟩
      · exact am_noh h
      · cases v0
        case int x =>
          have hk := of_decide_eq_true hk
          rcases q1 with _ | q1
          · refine lv_istore (i := k) hx hb hd hl.lv (by omega) rfl (fun ls2 hl2 => ?_)
            exact gos h he (am_has.s1 (v0 := .int x) hl.2.2.2 hl2)
          · refine lv_istore_n (i := k) hx hb hd (by show k % 4 = k; omega) hl.lv (by omega) rfl (fun ls2 hl2 => ?_)
            exact gos h he (am_has.s1 (v0 := .int x) hl.2.2.2 hl2)
        all_goals exact am_noh h
    case astore k =>
      rcases st with _ | ⟨v0, st⟩
      · exact am_noh h
      · cases v0
        case ref x =>
          have hk := of_decide_eq_true hk
          rcases q1 with _ | q1
          · refine lv_astore (i := k) hx hb hd hl.lv (by omega) rfl (fun ls2 hl2 => ?_)
            exact gos h he (am_has.s1 (v0 := .ref x) hl.2.2.2 hl2)
          · refine lv_astore_n (i := k) hx hb hd (by show k % 4 = k; omega) hl.lv (by omega) rfl (fun ls2 hl2 => ?_)
            exact gos h he (am_has.s1 (v0 := .ref x) hl.2.2.2 hl2)
        all_goals exact am_noh h
    case lstore k =>
      rcases st with _ | ⟨v0, st⟩
      · exact am_noh h
      · cases v0
        case long x =>
          have hk := of_decide_eq_true hk
          have hlen : k + 1 < lo.length := by rw [hl.2.2.2]; omega
          rcases q1 with _ | q1
          · refine lv_lstore (i := k) hx hb hd hl.lv (by omega) rfl (fun ls2 hl2 => ?_)
            exact gos h he (am_has.s2 (v0 := .long x) hl.2.2.2 hlen hl2)
          · refine lv_lstore_n (i := k) hx hb hd (by show k % 4 = k; omega) hl.lv (by omega) rfl (fun ls2 hl2 => ?_)
            exact gos h he (am_has.s2 (v0 := .long x) hl.2.2.2 hlen hl2)
        all_goals exact am_noh h
    case iinc k cc =>
      have hk := of_decide_eq_true hk
      have h : (match am_nth lo k with | .int x => am_run f y n (i + 1) (am_s1 lo k (.int (am_inc x cc))) st S | _ => none) = some r := h
      cases hv : am_nth lo k <;> rw [hv] at h
      case int x =>
        obtain ⟨k0, hk0⟩ := List.getElem?_of_mem (am_prs_of (ad := ad) (lo := lo) (k := k) (by rw [hv]; intro z; cases z))
        rw [hv] at hk0
        refine lv_iinc (k := k0) (v := am_inc x cc) hx hb hd hl.lv hk0 (am_inc_eq x cc) (by omega) rfl (fun ls2 hl2 => ?_)
        exact gos h he (am_has.s1 (v0 := .int (am_inc x cc)) hl.2.2.2 hl2)
      all_goals exact am_noh h
    case iadd =>
      rcases st with _ | ⟨v0, st⟩
      · exact am_noh h
      · cases v0
        case int yv =>
          rcases st with _ | ⟨v1, st⟩
          · exact am_noh h
          · cases v1
            case int xv =>
              refine lv_iadd hx hb hd ?_
              exact gos h he hl
            all_goals exact am_noh h
        all_goals exact am_noh h
    case isub =>
      rcases st with _ | ⟨v0, st⟩
      · exact am_noh h
      · cases v0
        case int yv =>
          rcases st with _ | ⟨v1, st⟩
          · exact am_noh h
          · cases v1
            case int xv =>
              refine lv_isub hx hb hd ?_
              exact gos h he hl
            all_goals exact am_noh h
        all_goals exact am_noh h
    case imul =>
      rcases st with _ | ⟨v0, st⟩
      · exact am_noh h
      · cases v0
        case int yv =>
          rcases st with _ | ⟨v1, st⟩
          · exact am_noh h
          · cases v1
            case int xv =>
              refine lv_imul hx hb hd ?_
              exact gos h he hl
            all_goals exact am_noh h
        all_goals exact am_noh h
    case iand =>
      rcases st with _ | ⟨v0, st⟩
      · exact am_noh h
      · cases v0
        case int yv =>
          rcases st with _ | ⟨v1, st⟩
          · exact am_noh h
          · cases v1
            case int xv =>
              refine lv_iand hx hb hd ?_
              exact gos h he hl
            all_goals exact am_noh h
        all_goals exact am_noh h
    case ior =>
      rcases st with _ | ⟨v0, st⟩
      · exact am_noh h
      · cases v0
        case int yv =>
          rcases st with _ | ⟨v1, st⟩
          · exact am_noh h
          · cases v1
            case int xv =>
              refine lv_ior hx hb hd ?_
              exact gos h he hl
            all_goals exact am_noh h
        all_goals exact am_noh h
    case ixor =>
      rcases st with _ | ⟨v0, st⟩
      · exact am_noh h
      · cases v0
        case int yv =>
          rcases st with _ | ⟨v1, st⟩
          · exact am_noh h
          · cases v1
            case int xv =>
              refine lv_ixor hx hb hd ?_
              exact gos h he hl
            all_goals exact am_noh h
        all_goals exact am_noh h
    case ishl =>
      rcases st with _ | ⟨v0, st⟩
      · exact am_noh h
      · cases v0
        case int yv =>
          rcases st with _ | ⟨v1, st⟩
          · exact am_noh h
          · cases v1
            case int xv =>
              refine lv_ishl hx hb hd ?_
              exact gos h he hl
            all_goals exact am_noh h
        all_goals exact am_noh h
    case ishr =>
      rcases st with _ | ⟨v0, st⟩
      · exact am_noh h
      · cases v0
        case int yv =>
          rcases st with _ | ⟨v1, st⟩
          · exact am_noh h
          · cases v1
            case int xv =>
              refine lv_ishr hx hb hd ?_
              exact gos h he hl
            all_goals exact am_noh h
        all_goals exact am_noh h
    case ladd =>
      rcases st with _ | ⟨v0, st⟩
      · exact am_noh h
      · cases v0
        case long yv =>
          rcases st with _ | ⟨v1, st⟩
          · exact am_noh h
          · cases v1
            case long xv =>
              refine lv_ladd hx hb hd ?_
              exact gos h he hl
            all_goals exact am_noh h
        all_goals exact am_noh h
    case lsub =>
      rcases st with _ | ⟨v0, st⟩
      · exact am_noh h
      · cases v0
        case long yv =>
          rcases st with _ | ⟨v1, st⟩
          · exact am_noh h
          · cases v1
            case long xv =>
              refine lv_lsub hx hb hd ?_
              exact gos h he hl
            all_goals exact am_noh h
        all_goals exact am_noh h
    case lmul =>
      rcases st with _ | ⟨v0, st⟩
      · exact am_noh h
      · cases v0
        case long yv =>
          rcases st with _ | ⟨v1, st⟩
          · exact am_noh h
          · cases v1
            case long xv =>
              refine lv_lmul hx hb hd ?_
              exact gos h he hl
            all_goals exact am_noh h
        all_goals exact am_noh h
    case land =>
      rcases st with _ | ⟨v0, st⟩
      · exact am_noh h
      · cases v0
        case long yv =>
          rcases st with _ | ⟨v1, st⟩
          · exact am_noh h
          · cases v1
            case long xv =>
              refine lv_land hx hb hd ?_
              exact gos h he hl
            all_goals exact am_noh h
        all_goals exact am_noh h
    case lor =>
      rcases st with _ | ⟨v0, st⟩
      · exact am_noh h
      · cases v0
        case long yv =>
          rcases st with _ | ⟨v1, st⟩
          · exact am_noh h
          · cases v1
            case long xv =>
              refine lv_lor hx hb hd ?_
              exact gos h he hl
            all_goals exact am_noh h
        all_goals exact am_noh h
    case i2f =>
      rcases st with _ | ⟨v0, st⟩
      · exact am_noh h
      · cases v0
        case long yv =>
          rcases st with _ | ⟨v1, st⟩
          · exact am_noh h
          · cases v1
            case long xv =>
              have h : (if am_cat st ≤ 8 then am_run f y n (i + 1) lo (.long (if yv < xv then xv else yv) :: st) S else none) = some r := h
              by_cases hc : am_cat st ≤ 8
              case neg => rw [if_neg hc] at h; exact am_noh h
              rw [if_pos hc] at h
              have hk : lk_m.contains (pg_ow y, q2, 272) = true := hk
              have hm : (pg_ow y, q2, 272) ∈ lk_m := by simpa using hk
              have hmn := am_mono hmo y _ _ _ _ _ _ h
              have hz : 272 ∈ pg_ys.flatten := by decide +kernel
              obtain ⟨w1, w2, w3, w4⟩ := am_mx_w hin hz hm
              refine va_mmax_long hx hb (hml.trans hl.1.symm) hown w1 w2 w3 w4 (by clear hz; omega) (by rw [am_cat_tr]; clear hz; omega) (by clear hz; omega) (by clear hz; omega) hd ?_
              exact gos h he hl
            all_goals exact am_noh h
        all_goals exact am_noh h
    case i2d =>
      rcases st with _ | ⟨v0, st⟩
      · exact am_noh h
      · cases v0
        case long yv =>
          rcases st with _ | ⟨v1, st⟩
          · exact am_noh h
          · cases v1
            case long xv =>
              have h : (if am_cat st ≤ 8 then am_run f y n (i + 1) lo (.long (if yv < xv then yv else xv) :: st) S else none) = some r := h
              by_cases hc : am_cat st ≤ 8
              case neg => rw [if_neg hc] at h; exact am_noh h
              rw [if_pos hc] at h
              have hk : lk_m.contains (pg_ow y, q2, 273) = true := hk
              have hm : (pg_ow y, q2, 273) ∈ lk_m := by simpa using hk
              have hmn := am_mono hmo y _ _ _ _ _ _ h
              have hz : 273 ∈ pg_ys.flatten := by decide +kernel
              obtain ⟨w1, w2, w3, w4⟩ := am_mn_w hin hz hm
              refine va_mmin_long hx hb (hml.trans hl.1.symm) hown w1 w2 w3 w4 (by clear hz; omega) (by rw [am_cat_tr]; clear hz; omega) (by clear hz; omega) (by clear hz; omega) hd ?_
              exact gos h he hl
            all_goals exact am_noh h
        all_goals exact am_noh h
    case iushr =>
      rcases st with _ | ⟨v0, st⟩
      · exact am_noh h
      · cases v0
        case int yv =>
          rcases st with _ | ⟨v1, st⟩
          · exact am_noh h
          · cases v1
            case int xv =>
              refine lv_iushr hx hb hd rfl ?_
              exact gos h he hl
            all_goals exact am_noh h
        all_goals exact am_noh h
    case lshl =>
      rcases st with _ | ⟨v0, st⟩
      · exact am_noh h
      · cases v0
        case int yv =>
          rcases st with _ | ⟨v1, st⟩
          · exact am_noh h
          · cases v1
            case long xv =>
              refine lv_lshl hx hb hd rfl ?_
              exact gos h he hl
            all_goals exact am_noh h
        all_goals exact am_noh h
    case lshr =>
      rcases st with _ | ⟨v0, st⟩
      · exact am_noh h
      · cases v0
        case int yv =>
          rcases st with _ | ⟨v1, st⟩
          · exact am_noh h
          · cases v1
            case long xv =>
              refine lv_lshr hx hb hd rfl ?_
              exact gos h he hl
            all_goals exact am_noh h
        all_goals exact am_noh h
    case lushr =>
      rcases st with _ | ⟨v0, st⟩
      · exact am_noh h
      · cases v0
        case int yv =>
          rcases st with _ | ⟨v1, st⟩
          · exact am_noh h
          · cases v1
            case long xv =>
              refine lv_lushr hx hb hd rfl ?_
              exact gos h he hl
            all_goals exact am_noh h
        all_goals exact am_noh h
    case idiv =>
      rcases st with _ | ⟨v0, st⟩
      · exact am_noh h
      · cases v0
        case int yv =>
          rcases st with _ | ⟨v1, st⟩
          · exact am_noh h
          · cases v1
            case int xv =>
              have h : (if yv = 0 then none else am_run f y n (i + 1) lo (.int (xv / yv) :: st) S) = some r := h
              by_cases hz : yv = 0
              · rw [if_pos hz] at h; exact am_noh h
              · rw [if_neg hz] at h
                refine lv_idiv hx hb hd hz ?_
                exact gos h he hl
            all_goals exact am_noh h
        all_goals exact am_noh h
    case irem =>
      rcases st with _ | ⟨v0, st⟩
      · exact am_noh h
      · cases v0
        case int yv =>
          rcases st with _ | ⟨v1, st⟩
          · exact am_noh h
          · cases v1
            case int xv =>
              have h : (if yv = 0 then none else am_run f y n (i + 1) lo (.int (xv - xv / yv * yv) :: st) S) = some r := h
              by_cases hz : yv = 0
              · rw [if_pos hz] at h; exact am_noh h
              · rw [if_neg hz] at h
                refine lv_irem hx hb hd hz ?_
                exact gos h he hl
            all_goals exact am_noh h
        all_goals exact am_noh h
    case ldiv =>
      rcases st with _ | ⟨v0, st⟩
      · exact am_noh h
      · cases v0
        case long yv =>
          rcases st with _ | ⟨v1, st⟩
          · exact am_noh h
          · cases v1
            case long xv =>
              have h : (if yv = 0 then none else am_run f y n (i + 1) lo (.long (xv / yv) :: st) S) = some r := h
              by_cases hz : yv = 0
              · rw [if_pos hz] at h; exact am_noh h
              · rw [if_neg hz] at h
                refine lv_ldiv hx hb hd hz ?_
                exact gos h he hl
            all_goals exact am_noh h
        all_goals exact am_noh h
    case lrem =>
      rcases st with _ | ⟨v0, st⟩
      · exact am_noh h
      · cases v0
        case long yv =>
          rcases st with _ | ⟨v1, st⟩
          · exact am_noh h
          · cases v1
            case long xv =>
              have h : (if yv = 0 then none else am_run f y n (i + 1) lo (.long (xv - xv / yv * yv) :: st) S) = some r := h
              by_cases hz : yv = 0
              · rw [if_pos hz] at h; exact am_noh h
              · rw [if_neg hz] at h
                refine lv_lrem hx hb hd hz ?_
                exact gos h he hl
            all_goals exact am_noh h
        all_goals exact am_noh h
    case lneg =>
      rcases st with _ | ⟨v0, st⟩
      · exact am_noh h
      · cases v0
        case long xv =>
          refine lv_lneg hx hb hd ?_
          exact gos h he hl
        all_goals exact am_noh h
    case lcmp =>
      rcases st with _ | ⟨v0, st⟩
      · exact am_noh h
      · cases v0
        case long yv =>
          rcases st with _ | ⟨v1, st⟩
          · exact am_noh h
          · cases v1
            case long xv =>
              refine W.lcmp hx hb hd ?_
              exact gos h he hl
            all_goals exact am_noh h
        all_goals exact am_noh h
    case i2l =>
      rcases st with _ | ⟨v0, st⟩
      · exact am_noh h
      · cases v0
        case int xv =>
          refine lv_i2l hx hb hd rfl ?_
          exact gos h he hl
        all_goals exact am_noh h
    case l2i =>
      rcases st with _ | ⟨v0, st⟩
      · exact am_noh h
      · cases v0
        case long xv =>
          refine lv_l2i hx hb hd rfl ?_
          exact gos h he hl
        all_goals exact am_noh h
    case i2b =>
      rcases st with _ | ⟨v0, st⟩
      · exact am_noh h
      · cases v0
        case int xv =>
          refine lv_i2b hx hb hd rfl ?_
          exact gos h he hl
        all_goals exact am_noh h
    case i2s =>
      rcases st with _ | ⟨v0, st⟩
      · exact am_noh h
      · cases v0
        case int xv =>
          refine lv_i2s hx hb hd rfl ?_
          exact gos h he hl
        all_goals exact am_noh h
    case dup =>
      rcases st with _ | ⟨v, st⟩
      · exact am_noh h
      · have h : (if v.category = 1 then am_run f y n (i + 1) lo (v :: v :: st) S else none) = some r := h
        by_cases hz : v.category = 1
        · rw [if_pos hz] at h
          refine lv_dup hx hb hd (by rw [am_tr_cat]; exact hz) ?_
          exact gos h he hl
        · rw [if_neg hz] at h; exact am_noh h
    case dup2 =>
      rcases st with _ | ⟨v, _ | ⟨w, st⟩⟩
      · exact am_noh h
      · exact am_noh h
      · have h : (if v.category = 1 ∧ w.category = 1 then am_run f y n (i + 1) lo (v :: w :: v :: w :: st) S else none) = some r := h
        by_cases hz : v.category = 1 ∧ w.category = 1
        · rw [if_pos hz] at h
          refine lv_dup2_11 hx hb hd (by rw [am_tr_cat]; first | exact hz.1 | exact hz.2) (by rw [am_tr_cat]; first | exact hz.2 | exact hz.1) ?_
          exact gos h he hl
        · rw [if_neg hz] at h; exact am_noh h
    case pop =>
      rcases st with _ | ⟨v, st⟩
      · exact am_noh h
      · have h : (if v.category = 1 then am_run f y n (i + 1) lo st S else none) = some r := h
        by_cases hz : v.category = 1
        · rw [if_pos hz] at h
          refine lv_pop hx hb hd (by rw [am_tr_cat]; exact hz) ?_
          exact gos h he hl
        · rw [if_neg hz] at h; exact am_noh h
    case goto t =>
      refine lv_goto (tgt := am_P y t.toNat) hx hb hd (by omega) ?_
      exact gos h rfl hl
    case if_icmp cd t =>
      have hk := of_decide_eq_true hk
      rcases st with _ | ⟨v0, st⟩
      · exact am_noh h
      · cases v0
        case int yv =>
          rcases st with _ | ⟨v1, st⟩
          · exact am_noh h
          · cases v1
            case int xv =>
              cases cd
              case eq =>
                have h : (if xv = yv then am_run f y n t.toNat lo st S else am_run f y n (i + 1) lo st S) = some r := h
                refine lv_icmp_eq (tgt := am_P y t.toNat) hx hb hd (by omega) (fun hc => ?_) (fun hc => ?_)
                · rw [if_pos (by first | exact hc | (simpa using hc))] at h; exact gos h rfl hl
                · rw [if_neg (by first | exact hc | (simpa using hc))] at h; exact gos h he hl
              case ne =>
                have h : (if xv = yv then am_run f y n (i + 1) lo st S else am_run f y n t.toNat lo st S) = some r := h
                refine lv_icmp_ne (tgt := am_P y t.toNat) hx hb hd (by omega) (fun hc => ?_) (fun hc => ?_)
                · rw [if_neg (by first | exact hc | (simpa using hc))] at h; exact gos h rfl hl
                · rw [if_pos (by first | exact hc | (simpa using hc) | exact Decidable.not_not.mp hc)] at h; exact gos h he hl
              case lt =>
                have h : (if xv < yv then am_run f y n t.toNat lo st S else am_run f y n (i + 1) lo st S) = some r := h
                refine lv_icmp_lt (tgt := am_P y t.toNat) hx hb hd (by omega) (fun hc => ?_) (fun hc => ?_)
                · rw [if_pos (by first | exact hc | (simpa using hc))] at h; exact gos h rfl hl
                · rw [if_neg (by first | exact hc | (simpa using hc))] at h; exact gos h he hl
              case ge =>
                have h : (if xv < yv then am_run f y n (i + 1) lo st S else am_run f y n t.toNat lo st S) = some r := h
                refine lv_icmp_ge (tgt := am_P y t.toNat) hx hb hd (by omega) (fun hc => ?_) (fun hc => ?_)
                · rw [if_neg (by first | exact Int32.not_lt.mpr hc | (simpa using hc))] at h; exact gos h rfl hl
                · rw [if_pos (by first | exact Int32.not_le.mp hc | (simpa using hc))] at h; exact gos h he hl
              case gt =>
                have h : (if yv < xv then am_run f y n t.toNat lo st S else am_run f y n (i + 1) lo st S) = some r := h
                refine lv_icmp_gt (tgt := am_P y t.toNat) hx hb hd (by omega) (fun hc => ?_) (fun hc => ?_)
                · rw [if_pos (by first | exact hc | (simpa using hc))] at h; exact gos h rfl hl
                · rw [if_neg (by first | exact hc | (simpa using hc))] at h; exact gos h he hl
              case le =>
                have h : (if yv < xv then am_run f y n (i + 1) lo st S else am_run f y n t.toNat lo st S) = some r := h
                refine lv_icmp_le (tgt := am_P y t.toNat) hx hb hd (by omega) (fun hc => ?_) (fun hc => ?_)
                · rw [if_neg (by first | exact Int32.not_lt.mpr hc | (simpa using hc))] at h; exact gos h rfl hl
                · rw [if_pos (by first | exact Int32.not_le.mp hc | (simpa using hc))] at h; exact gos h he hl
            all_goals exact am_noh h
        all_goals exact am_noh h
    case ifCond cd t =>
      have hk := of_decide_eq_true hk
      rcases st with _ | ⟨v0, st⟩
      · exact am_noh h
      · cases v0
        case int xv =>
          cases cd
          case eq =>
            have h : (if xv = 0 then am_run f y n t.toNat lo st S else am_run f y n (i + 1) lo st S) = some r := h
            refine lv_if_eq (tgt := am_P y t.toNat) hx hb hd (by omega) (fun hc => ?_) (fun hc => ?_)
            · rw [if_pos (by first | exact hc | (simpa using hc))] at h; exact gos h rfl hl
            · rw [if_neg (by first | exact hc | (simpa using hc))] at h; exact gos h he hl
          case ne =>
            have h : (if xv = 0 then am_run f y n (i + 1) lo st S else am_run f y n t.toNat lo st S) = some r := h
            refine lv_if_ne (tgt := am_P y t.toNat) hx hb hd (by omega) (fun hc => ?_) (fun hc => ?_)
            · rw [if_neg (by first | exact hc | (simpa using hc))] at h; exact gos h rfl hl
            · rw [if_pos (by first | exact hc | (simpa using hc) | exact Decidable.not_not.mp hc)] at h; exact gos h he hl
          case lt =>
            have h : (if xv < 0 then am_run f y n t.toNat lo st S else am_run f y n (i + 1) lo st S) = some r := h
            refine lv_if_lt (tgt := am_P y t.toNat) hx hb hd (by omega) (fun hc => ?_) (fun hc => ?_)
            · rw [if_pos (by first | exact hc | (simpa using hc))] at h; exact gos h rfl hl
            · rw [if_neg (by first | exact hc | (simpa using hc))] at h; exact gos h he hl
          case ge =>
            have h : (if xv < 0 then am_run f y n (i + 1) lo st S else am_run f y n t.toNat lo st S) = some r := h
            refine lv_if_ge (tgt := am_P y t.toNat) hx hb hd (by omega) (fun hc => ?_) (fun hc => ?_)
            · rw [if_neg (by first | exact Int32.not_lt.mpr hc | (simpa using hc))] at h; exact gos h rfl hl
            · rw [if_pos (by first | exact Int32.not_le.mp hc | (simpa using hc))] at h; exact gos h he hl
          case gt =>
            have h : (if 0 < xv then am_run f y n t.toNat lo st S else am_run f y n (i + 1) lo st S) = some r := h
            refine lv_if_gt (tgt := am_P y t.toNat) hx hb hd (by omega) (fun hc => ?_) (fun hc => ?_)
            · rw [if_pos (by first | exact hc | (simpa using hc))] at h; exact gos h rfl hl
            · rw [if_neg (by first | exact hc | (simpa using hc))] at h; exact gos h he hl
          case le =>
            have h : (if 0 < xv then am_run f y n (i + 1) lo st S else am_run f y n t.toNat lo st S) = some r := h
            refine lv_if_le (tgt := am_P y t.toNat) hx hb hd (by omega) (fun hc => ?_) (fun hc => ?_)
            · rw [if_neg (by first | exact Int32.not_lt.mpr hc | (simpa using hc))] at h; exact gos h rfl hl
            · rw [if_pos (by first | exact Int32.not_le.mp hc | (simpa using hc))] at h; exact gos h he hl
        all_goals exact am_noh h
    case tableswitch dd lw hg ts =>
      rcases st with _ | ⟨v0, st⟩
      · exact am_noh h
      · cases v0
        case int xv =>
          have hk := of_decide_eq_true hk
          have h : am_sw xv (am_run f y n dd.toNat lo st S) (fun t => am_run f y n t lo st S) lw.toNat ts.toList = some r := h
          rcases am_sw_spec xv ts.toList lw.toNat (by omega) h with ⟨j, t, ht, hxj, h⟩ | ⟨ho, h⟩
          · have hjl : j < ts.toList.length := (List.getElem?_eq_some_iff.mp ht).1
            have hxi : xv.toInt = (lw.toNat + j : Nat) := by rw [hxj, nI_toInt (by omega)]
            refine lv_tableIn (off := (am_P y t.toNat : Int) - am_P y i) (tgt := am_P y t.toNat) hx hb hd (by omega) (by omega) ?_ (by omega) ?_
            · rw [Array.getElem?_map, ← Array.getElem?_toList, show (xv.toInt - lw).toNat = j by omega, ht]
              rfl
            · exact gos h rfl hl
          · refine lv_tableOut (tgt := am_P y dd.toNat) hx hb hd ?_ (by omega) ?_
            · rcases (show xv.toInt < lw ∨ lw ≤ xv.toInt by omega) with z | z
              · exact Or.inl z
              · refine Or.inr (Int.not_le.mp fun z2 => ?_)
                have hj : (xv.toInt - lw).toNat < ts.toList.length := by omega
                refine ho _ hj ?_
                apply Int32.toInt_inj.mp
                rw [nI_toInt (by omega)]
                omega
            · exact gos h rfl hl
        all_goals exact am_noh h
    case lookupswitch dd ps =>
      rcases st with _ | ⟨v0, st⟩
      · exact am_noh h
      · cases v0
        case int xv =>
          obtain ⟨hk0, hk1⟩ := Bool.and_eq_true_iff.mp hk
          have h : am_lk xv (am_run f y n dd.toNat lo st S) (fun t => am_run f y n t lo st S) ps.toList = some r := h
          have hs := am_lk_spec (y := y) (i := i) (dd := dd) xv (am_run f y n dd.toNat lo st S) (fun t => am_run f y n t lo st S) ps.toList hk0
          obtain ⟨tg, hto, hrn⟩ := hs
          rw [hrn rfl] at h
          refine lv_lookup (off := (am_P y tg : Int) - am_P y i) (tgt := am_P y tg) hx hb hd ?_ (by rw [Array.toList_map]; exact hto) (by omega) ?_
          · rw [Array.toList_map]
            have := am_sorted ps.toList (fun z => (z.1, (am_P y z.2.toNat : Int) - am_P y i)) (fun _ => rfl) hk1
            exact this
          · exact gos h rfl hl
        all_goals exact am_noh h
    case getfield k =>
      rcases st with _ | ⟨v0, st⟩
      · exact am_noh h
      · cases v0
        case ref a =>
          have h : (if am_c S a = k / 256 then (match k % 4 with
            | 0 => am_run f y n (i + 1) lo (.int (am_i S a (k / 4 % 64)) :: st) S
            | 1 => am_run f y n (i + 1) lo (.long (am_j S a (k / 4 % 64)) :: st) S
            | _ => am_bq (am_r S a (k / 4 % 64)) fun r => am_run f y n (i + 1) lo (.ref r :: st) S) else none) = some r := h
          have hd : decode (pg_by y) (am_P y i) = .ok (.getfield q2, 3) := hd
          have he : am_P y i + 3 = am_P y (i + 1) := he
          have hk : (decide (k / 256 < 13) && decide (k / 4 % 64 < am_N (k / 256)) && (match (generalizing := false) q1 with
                | 0 => lk_f.contains (pg_ow y, q2, k / 256, k / 4 % 64)
                | _ => decide (pg_ow y = 11 ∧ q2 = 181 ∧ k / 256 = 4 ∧ k / 4 % 64 = 3)) &&
                (match (generalizing := false) k % 4, (am_ft (k / 256)).getD (k / 4 % 64) 9 with | 0, 0 => true | 0, 3 => true | 1, 1 => true | 2, 2 => true | _, _ => false)) = true := hk
          generalize k / 256 = cc at h hk
          generalize k / 4 % 64 = j at h hk
          generalize k % 4 = t at h hk
          simp only [Bool.and_eq_true, decide_eq_true_eq] at hk
          obtain ⟨⟨⟨hc13, hjN⟩, hlk⟩, hty⟩ := hk
          by_cases hc : am_c S a = cc
          case neg => rw [if_neg hc] at h; exact am_noh h
          rw [if_pos hc] at h
          have haS : a < am_n S := (hIv.1 a (by omega)).1
          have hws := am_wd_at (dA := dA) (ad := ad) haS
          rw [am_ce_o hc (by omega)] at hws
          have hcl := am_cl cc hc13
          have hft : (am_ft cc)[j]? = some ((am_ft cc).getD j 9) := by
            have hlen : j < (am_ft cc).length := by rw [am_ft_len cc hc13]; exact hjN
            rw [List.getD_eq_getElem?_getD, List.getElem?_eq_getElem hlen]
            rfl
          have hfs := am_fs_at (ad := ad) (S := S) (a := a) (am_ft cc) 0 j _ hft
          rw [Nat.zero_add] at hfs
          have key : W p l e R s m args below meth c H locs (am_n S - n0) (am_w S - w0) Q (F0 m (am_P y i + 3) ls (am_fv ad S a ((am_ft cc).getD j 9) j :: st.map (am_tr ad))) → W p l e R s m args below meth c H locs (am_n S - n0) (am_w S - w0) Q (F0 m (am_P y i) ls (.ref (ad a) :: st.map (am_tr ad))) := by
            intro kk
            rcases q1 with _ | q1
            · have hm : (pg_ow y, q2, cc, j) ∈ lk_f := by simpa using hlk
              exact va_get hx hb hts (fun w hw => lw_gw_in (am_uw cc hc13 w hw) (am_uw_good w hw)) hown hK hP a hws hcl j hjN (hin (lk_f_ok _ hm) rfl) (fun _ h9 => by rw [← (am_ftok cc hc13 j hjN).2]; exact h9) hfs hd kk
            · obtain ⟨z1, z2, z3, z4⟩ := of_decide_eq_true hlk
              subst z3; subst z4
              rw [z1] at hown
              rw [z2] at hd
              exact va_getN hx hb hts (fun w hw => lw_gw_in (am_uw 4 hc13 w hw) (am_uw_good w hw)) hown hK hP a hws hcl 3 hjN (va_Nw.use rfl hNW.2.1) (fun _ h9 => h9) hfs hd kk
          refine key ?_
          clear key
          generalize (am_ft cc).getD j 9 = ft at hty hfs
          match t, ft, hty with
          | 0, 0, _ => exact gos h he hl
          | 0, 3, _ => exact gos h he hl
          | 1, 1, _ => exact gos h he hl
          | 2, 2, _ =>
            have h : am_bq (am_r S a j) (fun r => am_run f y n (i + 1) lo (.ref r :: st) S) = some r := h
            show W p l e R s m args below meth c H locs (am_n S - n0) (am_w S - w0) Q (F0 m (am_P y i + 3) ls (va_rf ((am_r S a j).map ad) :: st.map (am_tr ad)))
            cases hr : am_r S a j with
            | none => rw [hr] at h; exact am_noh h
            | some r' =>
              rw [hr] at h
              exact gos (st' := .ref r' :: st) h he hl
        all_goals exact am_noh h
    case putfield k =>
      rcases st with _ | ⟨v0, _ | ⟨v1, st⟩⟩
      · exact am_noh h
      · cases v0 <;> exact am_noh h
      · cases v0
        case int x =>
          cases v1
          case ref a =>
            have h : (if am_c S a = k / 256 then (match k % 4 with
                  | 0 => am_run f y n (i + 1) lo st (am_pi S a (k / 4 % 64) x)
                  | 3 => (if x = 0 ∨ x = 1 then am_run f y n (i + 1) lo st (am_pi S a (k / 4 % 64) x) else none)
                  | _ => none) else none) = some r := h
            have hd : decode (pg_by y) (am_P y i) = .ok (.putfield q2, 3) := hd
            have he : am_P y i + 3 = am_P y (i + 1) := he
            have hk : (decide (k / 256 < 13) && decide (k / 4 % 64 < am_N (k / 256)) && lk_f.contains (pg_ow y, q2, k / 256, k / 4 % 64) && decide ((am_ft (k / 256)).getD (k / 4 % 64) 9 = k % 4) &&
                  ((am_T (k / 256) (k / 4 % 64)).2.2.2 == false || (decide (pg_ow y = k / 256) && decide ((pg_nm y).name = "<init>")))) = true := hk
            generalize k / 256 = cc at h hk
            generalize k / 4 % 64 = j at h hk
            generalize k % 4 = t at h hk
            simp only [Bool.and_eq_true, decide_eq_true_eq] at hk
            obtain ⟨⟨⟨⟨hc13, hjN⟩, hlk⟩, hty⟩, hfin⟩ := hk
            by_cases hc : am_c S a = cc
            case neg => rw [if_neg hc] at h; exact am_noh h
            rw [if_pos hc] at h
            have haS : a < am_n S := (hIv.1 a (by omega)).1
            have hws := am_wd_at (dA := dA) (ad := ad) haS
            rw [am_ce_o hc (by omega)] at hws
            have hcl := am_cl cc hc13
            have hft : (am_ft cc)[j]? = some t := by
              have hlen : j < (am_ft cc).length := by rw [am_ft_len cc hc13]; exact hjN
              rw [← hty, List.getD_eq_getElem?_getD, List.getElem?_eq_getElem hlen]
              rfl
            obtain ⟨hq1, hq2⟩ := am_ftok cc hc13 j hjN
            rw [hty] at hq1
            have hlen2 : j < (am_fs ad S a (am_ft cc) 0).length := by rw [am_fs_len, am_ft_len cc hc13]; exact hjN
            have hm : (pg_ow y, q2, cc, j) ∈ lk_f := by simpa using hlk
            have key : ∀ v : Value, narrow (am_ty cc j) v = v → fits (am_ty cc j) v = true → (∀ (H1 : Heap) (locs1 : List Loc), va_P D vwCl ((am_wd dA ad S).set a (ad a, .inr (cc, (am_fs ad S a (am_ft cc) 0).set j v))) H1 → va_D A ((am_wd dA ad S).set a (ad a, .inr (cc, (am_fs ad S a (am_ft cc) 0).set j v))) → va_S A s.heap H1 locs1 → W p l e R s m args below meth c H1 locs1 (am_n S - n0) (am_w S - w0) Q (F0 m (am_P y i + 3) ls (st.map (am_tr ad)))) → W p l e R s m args below meth c H locs (am_n S - n0) (am_w S - w0) Q (F0 m (am_P y i) ls (v :: .ref (ad a) :: st.map (am_tr ad))) := by
              intro v hn hfit kk
              by_cases hfn : (am_T cc j).2.2.2 = true
              · rcases Bool.or_eq_true_iff.mp hfin with z | z
                · rw [hfn] at z; cases z
                · simp only [Bool.and_eq_true, decide_eq_true_eq] at z
                  exact va_putF hx hb hts (fun w hw => lw_gw_in (am_uw cc hc13 w hw) (am_uw_good w hw)) (am_ty cc) (am_tyok cc hc13) (am_nmok cc hc13) hown hK hP hD hS a hws hcl j hjN (hin (lk_f_ok _ hm) rfl) (fun _ h9 => by rw [← hq2]; exact h9) hfn (hnm z.2) (by rw [hq2, z.1]) (am_tyok cc hc13 j hjN) hn hfit hlen2 hd kk
              · exact va_put hx hb hts (fun w hw => lw_gw_in (am_uw cc hc13 w hw) (am_uw_good w hw)) (am_ty cc) (am_tyok cc hc13) (am_nmok cc hc13) hown hK hP hD hS a hws hcl j hjN (hin (lk_f_ok _ hm) rfl) (fun _ h9 => by rw [← hq2]; exact h9) (by simpa using hfn) (am_tyok cc hc13 j hjN) hn hfit hlen2 hd kk
            
            match t, hq1, hft, h with
            | 0, hq1, hft, h =>
              refine key (.int x) (by cases hz : am_ty cc j <;> rw [hz] at hq1 <;> first | rfl | cases hq1) (by cases hz : am_ty cc j <;> rw [hz] at hq1 <;> first | rfl | cases hq1) (fun H1 locs1 hP1 hD1 hS1 => ?_)
              rw [am_wd_pi_o hc (by omega) hft (Or.inl rfl)] at hP1 hD1
              exact go (S' := am_pi S a j x) h he (Nat.le_refl _) (Nat.le_refl _) am_ag.rf hP1 hD1 hS1 (hIv.pi (by omega)) hl
            | 3, hq1, hft, h =>
              have h : (if x = 0 ∨ x = 1 then am_run f y n (i + 1) lo st (am_pi S a j x) else none) = some r := h
              by_cases hx01 : x = 0 ∨ x = 1
              case neg => rw [if_neg hx01] at h; exact am_noh h
              rw [if_pos hx01] at h
              refine key (.int x) (by cases hz : am_ty cc j <;> rw [hz] at hq1 <;> first | (rcases hx01 with rfl | rfl <;> rfl) | cases hq1) (by cases hz : am_ty cc j <;> rw [hz] at hq1 <;> first | (rcases hx01 with rfl | rfl <;> rfl) | cases hq1) (fun H1 locs1 hP1 hD1 hS1 => ?_)
              rw [am_wd_pi_o hc (by omega) hft (Or.inr rfl)] at hP1 hD1
              exact go (S' := am_pi S a j x) h he (Nat.le_refl _) (Nat.le_refl _) am_ag.rf hP1 hD1 hS1 (hIv.pi (by omega)) hl
            | 1, _, _, h => exact am_noh h
            | 2, _, _, h => exact am_noh h
            | t + 4, _, _, h => exact am_noh h
          all_goals exact am_noh h
        case long x =>
          cases v1
          case ref a =>
            have h : (if am_c S a = k / 256 then (match k % 4 with
                  | 1 => am_run f y n (i + 1) lo st (am_pj S a (k / 4 % 64) x)
                  | _ => none) else none) = some r := h
            have hd : decode (pg_by y) (am_P y i) = .ok (.putfield q2, 3) := hd
            have he : am_P y i + 3 = am_P y (i + 1) := he
            have hk : (decide (k / 256 < 13) && decide (k / 4 % 64 < am_N (k / 256)) && lk_f.contains (pg_ow y, q2, k / 256, k / 4 % 64) && decide ((am_ft (k / 256)).getD (k / 4 % 64) 9 = k % 4) &&
                  ((am_T (k / 256) (k / 4 % 64)).2.2.2 == false || (decide (pg_ow y = k / 256) && decide ((pg_nm y).name = "<init>")))) = true := hk
            generalize k / 256 = cc at h hk
            generalize k / 4 % 64 = j at h hk
            generalize k % 4 = t at h hk
            simp only [Bool.and_eq_true, decide_eq_true_eq] at hk
            obtain ⟨⟨⟨⟨hc13, hjN⟩, hlk⟩, hty⟩, hfin⟩ := hk
            by_cases hc : am_c S a = cc
            case neg => rw [if_neg hc] at h; exact am_noh h
            rw [if_pos hc] at h
            have haS : a < am_n S := (hIv.1 a (by omega)).1
            have hws := am_wd_at (dA := dA) (ad := ad) haS
            rw [am_ce_o hc (by omega)] at hws
            have hcl := am_cl cc hc13
            have hft : (am_ft cc)[j]? = some t := by
              have hlen : j < (am_ft cc).length := by rw [am_ft_len cc hc13]; exact hjN
              rw [← hty, List.getD_eq_getElem?_getD, List.getElem?_eq_getElem hlen]
              rfl
            obtain ⟨hq1, hq2⟩ := am_ftok cc hc13 j hjN
            rw [hty] at hq1
            have hlen2 : j < (am_fs ad S a (am_ft cc) 0).length := by rw [am_fs_len, am_ft_len cc hc13]; exact hjN
            have hm : (pg_ow y, q2, cc, j) ∈ lk_f := by simpa using hlk
            have key : ∀ v : Value, narrow (am_ty cc j) v = v → fits (am_ty cc j) v = true → (∀ (H1 : Heap) (locs1 : List Loc), va_P D vwCl ((am_wd dA ad S).set a (ad a, .inr (cc, (am_fs ad S a (am_ft cc) 0).set j v))) H1 → va_D A ((am_wd dA ad S).set a (ad a, .inr (cc, (am_fs ad S a (am_ft cc) 0).set j v))) → va_S A s.heap H1 locs1 → W p l e R s m args below meth c H1 locs1 (am_n S - n0) (am_w S - w0) Q (F0 m (am_P y i + 3) ls (st.map (am_tr ad)))) → W p l e R s m args below meth c H locs (am_n S - n0) (am_w S - w0) Q (F0 m (am_P y i) ls (v :: .ref (ad a) :: st.map (am_tr ad))) := by
              intro v hn hfit kk
              by_cases hfn : (am_T cc j).2.2.2 = true
              · rcases Bool.or_eq_true_iff.mp hfin with z | z
                · rw [hfn] at z; cases z
                · simp only [Bool.and_eq_true, decide_eq_true_eq] at z
                  exact va_putF hx hb hts (fun w hw => lw_gw_in (am_uw cc hc13 w hw) (am_uw_good w hw)) (am_ty cc) (am_tyok cc hc13) (am_nmok cc hc13) hown hK hP hD hS a hws hcl j hjN (hin (lk_f_ok _ hm) rfl) (fun _ h9 => by rw [← hq2]; exact h9) hfn (hnm z.2) (by rw [hq2, z.1]) (am_tyok cc hc13 j hjN) hn hfit hlen2 hd kk
              · exact va_put hx hb hts (fun w hw => lw_gw_in (am_uw cc hc13 w hw) (am_uw_good w hw)) (am_ty cc) (am_tyok cc hc13) (am_nmok cc hc13) hown hK hP hD hS a hws hcl j hjN (hin (lk_f_ok _ hm) rfl) (fun _ h9 => by rw [← hq2]; exact h9) (by simpa using hfn) (am_tyok cc hc13 j hjN) hn hfit hlen2 hd kk
            
            match t, hq1, hft, h with
            | 1, hq1, hft, h =>
              refine key (.long x) (by cases hz : am_ty cc j <;> rw [hz] at hq1 <;> first | rfl | cases hq1) (by cases hz : am_ty cc j <;> rw [hz] at hq1 <;> first | rfl | cases hq1) (fun H1 locs1 hP1 hD1 hS1 => ?_)
              rw [am_wd_pj_o hc (by omega) hft] at hP1 hD1
              exact go (S' := am_pj S a j x) h he (Nat.le_refl _) (Nat.le_refl _) am_ag.rf hP1 hD1 hS1 hIv.pj hl
            | 0, _, _, h => exact am_noh h
            | t + 2, _, _, h => exact am_noh h
          all_goals exact am_noh h
        case ref x =>
          cases v1
          case ref a =>
            have h : (if am_c S a = k / 256 then (match k % 4 with
                  | 2 => (if am_c S x < 900 then am_run f y n (i + 1) lo st (am_pr S a (k / 4 % 64) x) else none)
                  | _ => none) else none) = some r := h
            have hd : decode (pg_by y) (am_P y i) = .ok (.putfield q2, 3) := hd
            have he : am_P y i + 3 = am_P y (i + 1) := he
            have hk : (decide (k / 256 < 13) && decide (k / 4 % 64 < am_N (k / 256)) && lk_f.contains (pg_ow y, q2, k / 256, k / 4 % 64) && decide ((am_ft (k / 256)).getD (k / 4 % 64) 9 = k % 4) &&
                  ((am_T (k / 256) (k / 4 % 64)).2.2.2 == false || (decide (pg_ow y = k / 256) && decide ((pg_nm y).name = "<init>")))) = true := hk
            generalize k / 256 = cc at h hk
            generalize k / 4 % 64 = j at h hk
            generalize k % 4 = t at h hk
            simp only [Bool.and_eq_true, decide_eq_true_eq] at hk
            obtain ⟨⟨⟨⟨hc13, hjN⟩, hlk⟩, hty⟩, hfin⟩ := hk
            by_cases hc : am_c S a = cc
            case neg => rw [if_neg hc] at h; exact am_noh h
            rw [if_pos hc] at h
            have haS : a < am_n S := (hIv.1 a (by omega)).1
            have hws := am_wd_at (dA := dA) (ad := ad) haS
            rw [am_ce_o hc (by omega)] at hws
            have hcl := am_cl cc hc13
            have hft : (am_ft cc)[j]? = some t := by
              have hlen : j < (am_ft cc).length := by rw [am_ft_len cc hc13]; exact hjN
              rw [← hty, List.getD_eq_getElem?_getD, List.getElem?_eq_getElem hlen]
              rfl
            obtain ⟨hq1, hq2⟩ := am_ftok cc hc13 j hjN
            rw [hty] at hq1
            have hlen2 : j < (am_fs ad S a (am_ft cc) 0).length := by rw [am_fs_len, am_ft_len cc hc13]; exact hjN
            have hm : (pg_ow y, q2, cc, j) ∈ lk_f := by simpa using hlk
            have key : ∀ v : Value, narrow (am_ty cc j) v = v → fits (am_ty cc j) v = true → (∀ (H1 : Heap) (locs1 : List Loc), va_P D vwCl ((am_wd dA ad S).set a (ad a, .inr (cc, (am_fs ad S a (am_ft cc) 0).set j v))) H1 → va_D A ((am_wd dA ad S).set a (ad a, .inr (cc, (am_fs ad S a (am_ft cc) 0).set j v))) → va_S A s.heap H1 locs1 → W p l e R s m args below meth c H1 locs1 (am_n S - n0) (am_w S - w0) Q (F0 m (am_P y i + 3) ls (st.map (am_tr ad)))) → W p l e R s m args below meth c H locs (am_n S - n0) (am_w S - w0) Q (F0 m (am_P y i) ls (v :: .ref (ad a) :: st.map (am_tr ad))) := by
              intro v hn hfit kk
              by_cases hfn : (am_T cc j).2.2.2 = true
              · rcases Bool.or_eq_true_iff.mp hfin with z | z
                · rw [hfn] at z; cases z
                · simp only [Bool.and_eq_true, decide_eq_true_eq] at z
                  exact va_putF hx hb hts (fun w hw => lw_gw_in (am_uw cc hc13 w hw) (am_uw_good w hw)) (am_ty cc) (am_tyok cc hc13) (am_nmok cc hc13) hown hK hP hD hS a hws hcl j hjN (hin (lk_f_ok _ hm) rfl) (fun _ h9 => by rw [← hq2]; exact h9) hfn (hnm z.2) (by rw [hq2, z.1]) (am_tyok cc hc13 j hjN) hn hfit hlen2 hd kk
              · exact va_put hx hb hts (fun w hw => lw_gw_in (am_uw cc hc13 w hw) (am_uw_good w hw)) (am_ty cc) (am_tyok cc hc13) (am_nmok cc hc13) hown hK hP hD hS a hws hcl j hjN (hin (lk_f_ok _ hm) rfl) (fun _ h9 => by rw [← hq2]; exact h9) (by simpa using hfn) (am_tyok cc hc13 j hjN) hn hfit hlen2 hd kk
            
            match t, hq1, hft, h with
            | 2, hq1, hft, h =>
              have h : (if am_c S x < 900 then am_run f y n (i + 1) lo st (am_pr S a j x) else none) = some r := h
              by_cases hx9 : am_c S x < 900
              case neg => rw [if_neg hx9] at h; exact am_noh h
              rw [if_pos hx9] at h
              refine key (.ref (ad x)) (by cases hz : am_ty cc j <;> rw [hz] at hq1 <;> first | rfl | cases hq1) (by cases hz : am_ty cc j <;> rw [hz] at hq1 <;> first | rfl | cases hq1) (fun H1 locs1 hP1 hD1 hS1 => ?_)
              rw [am_wd_pr_o hc (by omega) hft] at hP1 hD1
              exact go (S' := am_pr S a j x) h he (Nat.le_refl _) (Nat.le_refl _) am_ag.rf hP1 hD1 hS1 (hIv.pr (hIv.1 x hx9).1) hl
            | 0, _, _, h => exact am_noh h
            | 1, _, _, h => exact am_noh h
            | t + 3, _, _, h => exact am_noh h
          all_goals exact am_noh h
        all_goals exact am_noh h
    case iaload =>
      rcases st with _ | ⟨v0, st⟩
      · exact am_noh h
      · cases v0
        case int x =>
          rcases st with _ | ⟨v1, st⟩
          · exact am_noh h
          · cases v1
            case ref a =>
              have h : (if am_c S a = 100 then (if x < 0 ∨ am_l S a ≤ x.toNatClampNeg then none else am_run f y n (i + 1) lo (.int (am_i S a x.toNatClampNeg) :: st) S) else none) = some r := h
              by_cases hc : am_c S a = 100
              case neg => rw [if_neg hc] at h; exact am_noh h
              rw [if_pos hc] at h
              by_cases hxi : x < 0 ∨ am_l S a ≤ x.toNatClampNeg
              · rw [if_pos hxi] at h; exact am_noh h
              rw [if_neg hxi] at h
              have haS : a < am_n S := (hIv.1 a (by omega)).1
              have hws := am_wd_at (dA := dA) (ad := ad) haS
              rw [am_ce_a hc (by decide), am_ac_i hc (by decide)] at hws
              refine va_iald hx hb hK hP a 0 hws rfl hxi hd ?_
              exact gos h he hl
            all_goals exact am_noh h
        all_goals exact am_noh h
    case baload =>
      rcases st with _ | ⟨v0, st⟩
      · exact am_noh h
      · cases v0
        case int x =>
          rcases st with _ | ⟨v1, st⟩
          · exact am_noh h
          · cases v1
            case ref a =>
              have h : (if am_c S a = 101 then (if x < 0 ∨ am_l S a ≤ x.toNatClampNeg then none else am_run f y n (i + 1) lo (.int (am_i S a x.toNatClampNeg) :: st) S) else none) = some r := h
              by_cases hc : am_c S a = 101
              case neg => rw [if_neg hc] at h; exact am_noh h
              rw [if_pos hc] at h
              by_cases hxi : x < 0 ∨ am_l S a ≤ x.toNatClampNeg
              · rw [if_pos hxi] at h; exact am_noh h
              rw [if_neg hxi] at h
              have haS : a < am_n S := (hIv.1 a (by omega)).1
              have hws := am_wd_at (dA := dA) (ad := ad) haS
              rw [am_ce_a hc (by decide), am_ac_i hc (by decide)] at hws
              refine va_bald hx hb hK hP a 1 hws rfl hxi hd ?_
              exact gos h he hl
            all_goals exact am_noh h
        all_goals exact am_noh h
    case laload =>
      rcases st with _ | ⟨v0, st⟩
      · exact am_noh h
      · cases v0
        case int x =>
          rcases st with _ | ⟨v1, st⟩
          · exact am_noh h
          · cases v1
            case ref a =>
              have h : (if am_c S a = 102 then (if x < 0 ∨ am_l S a ≤ x.toNatClampNeg then none else am_run f y n (i + 1) lo (.long (am_j S a x.toNatClampNeg) :: st) S) else none) = some r := h
              by_cases hc : am_c S a = 102
              case neg => rw [if_neg hc] at h; exact am_noh h
              rw [if_pos hc] at h
              by_cases hxi : x < 0 ∨ am_l S a ≤ x.toNatClampNeg
              · rw [if_pos hxi] at h; exact am_noh h
              rw [if_neg hxi] at h
              have haS : a < am_n S := (hIv.1 a (by omega)).1
              have hws := am_wd_at (dA := dA) (ad := ad) haS
              rw [am_ce_a hc (by decide), am_ac_j hc] at hws
              refine va_lald hx hb hK hP a 2 hws rfl hxi hd ?_
              exact gos h he hl
            all_goals exact am_noh h
        all_goals exact am_noh h
    case iastore =>
      rcases st with _ | ⟨v0, st⟩
      · exact am_noh h
      · cases v0
        case int v =>
          rcases st with _ | ⟨v1, st⟩
          · exact am_noh h
          · cases v1
            case int x =>
              rcases st with _ | ⟨v2, st⟩
              · exact am_noh h
              · cases v2
                case ref a =>
                  have h : (if am_c S a = 100 then (if x < 0 ∨ am_l S a ≤ x.toNatClampNeg then none else am_run f y n (i + 1) lo st (am_pi S a x.toNatClampNeg v)) else none) = some r := h
                  by_cases hc : am_c S a = 100
                  case neg => rw [if_neg hc] at h; exact am_noh h
                  rw [if_pos hc] at h
                  by_cases hxi : x < 0 ∨ am_l S a ≤ x.toNatClampNeg
                  · rw [if_pos hxi] at h; exact am_noh h
                  rw [if_neg hxi] at h
                  have haS : a < am_n S := (hIv.1 a (by omega)).1
                  have hws := am_wd_at (dA := dA) (ad := ad) haS
                  rw [am_ce_a hc (by decide), am_ac_i hc (by decide)] at hws
                  refine va_iast hx hb hK hP hD hS a 0 hws rfl hxi hd (fun H1 locs1 hP1 hD1 hS1 => ?_)
                  rw [am_wd_pi_a hc (by decide) (by decide)] at hP1 hD1
                  exact go (S' := am_pi S a x.toNatClampNeg v) h he (Nat.le_refl _) (Nat.le_refl _) am_ag.rf hP1 hD1 hS1 (hIv.pi (by omega)) hl
                all_goals exact am_noh h
            all_goals exact am_noh h
        all_goals exact am_noh h
    case bastore =>
      rcases st with _ | ⟨v0, st⟩
      · exact am_noh h
      · cases v0
        case int v =>
          rcases st with _ | ⟨v1, st⟩
          · exact am_noh h
          · cases v1
            case int x =>
              rcases st with _ | ⟨v2, st⟩
              · exact am_noh h
              · cases v2
                case ref a =>
                  have h : (if am_c S a = 101 then (if x < 0 ∨ am_l S a ≤ x.toNatClampNeg then none else am_run f y n (i + 1) lo st (am_pi S a x.toNatClampNeg v.toInt8.toInt32)) else none) = some r := h
                  by_cases hc : am_c S a = 101
                  case neg => rw [if_neg hc] at h; exact am_noh h
                  rw [if_pos hc] at h
                  by_cases hxi : x < 0 ∨ am_l S a ≤ x.toNatClampNeg
                  · rw [if_pos hxi] at h; exact am_noh h
                  rw [if_neg hxi] at h
                  have haS : a < am_n S := (hIv.1 a (by omega)).1
                  have hws := am_wd_at (dA := dA) (ad := ad) haS
                  rw [am_ce_a hc (by decide), am_ac_i hc (by decide)] at hws
                  refine va_bast hx hb hK hP hD hS a 1 hws rfl hxi hd (fun H1 locs1 hP1 hD1 hS1 => ?_)
                  rw [vp_nar_byte, am_wd_pi_a hc (by decide) (by decide)] at hP1 hD1
                  exact go (S' := am_pi S a x.toNatClampNeg v.toInt8.toInt32) h he (Nat.le_refl _) (Nat.le_refl _) am_ag.rf hP1 hD1 hS1 (hIv.pi (by omega)) hl
                all_goals exact am_noh h
            all_goals exact am_noh h
        all_goals exact am_noh h
    case lastore =>
      rcases st with _ | ⟨v0, st⟩
      · exact am_noh h
      · cases v0
        case long v =>
          rcases st with _ | ⟨v1, st⟩
          · exact am_noh h
          · cases v1
            case int x =>
              rcases st with _ | ⟨v2, st⟩
              · exact am_noh h
              · cases v2
                case ref a =>
                  have h : (if am_c S a = 102 then (if x < 0 ∨ am_l S a ≤ x.toNatClampNeg then none else am_run f y n (i + 1) lo st (am_pj S a x.toNatClampNeg v)) else none) = some r := h
                  by_cases hc : am_c S a = 102
                  case neg => rw [if_neg hc] at h; exact am_noh h
                  rw [if_pos hc] at h
                  by_cases hxi : x < 0 ∨ am_l S a ≤ x.toNatClampNeg
                  · rw [if_pos hxi] at h; exact am_noh h
                  rw [if_neg hxi] at h
                  have haS : a < am_n S := (hIv.1 a (by omega)).1
                  have hws := am_wd_at (dA := dA) (ad := ad) haS
                  rw [am_ce_a hc (by decide), am_ac_j hc] at hws
                  refine va_last hx hb hK hP hD hS a 2 hws rfl hxi hd (fun H1 locs1 hP1 hD1 hS1 => ?_)
                  rw [am_wd_pj_a hc] at hP1 hD1
                  exact go (S' := am_pj S a x.toNatClampNeg v) h he (Nat.le_refl _) (Nat.le_refl _) am_ag.rf hP1 hD1 hS1 hIv.pj hl
                all_goals exact am_noh h
            all_goals exact am_noh h
        all_goals exact am_noh h
    case aaload =>
      rcases st with _ | ⟨v0, st⟩
      · exact am_noh h
      · cases v0
        case int x =>
          rcases st with _ | ⟨v1, st⟩
          · exact am_noh h
          · cases v1
            case ref a =>
              have h : (if 103 ≤ am_c S a ∧ am_c S a < 200 then (if x < 0 ∨ am_l S a ≤ x.toNatClampNeg then none else am_bq (am_r S a x.toNatClampNeg) fun r => am_run f y n (i + 1) lo (.ref r :: st) S) else none) = some r := h
              by_cases hc : 103 ≤ am_c S a ∧ am_c S a < 200
              case neg => rw [if_neg hc] at h; exact am_noh h
              rw [if_pos hc] at h
              by_cases hxi : x < 0 ∨ am_l S a ≤ x.toNatClampNeg
              · rw [if_pos hxi] at h; exact am_noh h
              rw [if_neg hxi] at h
              obtain ⟨haS, hvk⟩ := hIv.1 a (by omega)
              have hws := am_wd_at (dA := dA) (ad := ad) haS
              obtain ⟨t0, ty, ht0, href, -⟩ := am_kty (dA := dA) hvk hc.1
              generalize hcc : am_c S a = cc at hc ht0
              rw [am_ce_a hcc (by omega), am_ac_r hcc (by omega)] at hws
              have hlt : x.toNatClampNeg < am_l S a := Nat.not_le.mp fun q => hxi (Or.inr q)
              refine W.aald (v := va_rf ((am_r S a x.toNatClampNeg).map ad)) (ty := ty) hx hb (hP a _ hws) ((hK.2 t0 _ ht0).1 (am_l S a) (fun j => va_rf ((am_r S a j).map ad))) href (fun q => by cases q) (by show ¬ (x < 0 ∨ (arrV _ _ _).slots.size ≤ _); rw [arrV_size]; exact hxi) (by show (arrV _ _ _).slots[_]? = _; rw [arrV_read _ _ hlt]) rfl rfl hd ?_
              cases hr : am_r S a x.toNatClampNeg with
              | none => rw [hr] at h; exact am_noh h
              | some r' =>
                rw [hr] at h
                exact gos (st' := .ref r' :: st) h he hl
            all_goals exact am_noh h
        all_goals exact am_noh h
    case aastore =>
      rcases st with _ | ⟨v0, st⟩
      · exact am_noh h
      · cases v0
        case ref v =>
          rcases st with _ | ⟨v1, st⟩
          · exact am_noh h
          · cases v1
            case int x =>
              rcases st with _ | ⟨v2, st⟩
              · exact am_noh h
              · cases v2
                case ref a =>
                  have h : (if am_c S a = 103 + am_c S v ∧ am_c S v < 50 then (if x < 0 ∨ am_l S a ≤ x.toNatClampNeg then none else am_run f y n (i + 1) lo st (am_pr S a x.toNatClampNeg v)) else none) = some r := h
                  by_cases hc : am_c S a = 103 + am_c S v ∧ am_c S v < 50
                  case neg => rw [if_neg hc] at h; exact am_noh h
                  rw [if_pos hc] at h
                  by_cases hxi : x < 0 ∨ am_l S a ≤ x.toNatClampNeg
                  · rw [if_pos hxi] at h; exact am_noh h
                  rw [if_neg hxi] at h
                  obtain ⟨haS, hvk⟩ := hIv.1 a (by omega)
                  obtain ⟨hvS, hvk2⟩ := hIv.1 v (by omega)
                  have hv13 : am_c S v < 13 := by unfold am_vk at hvk2; omega
                  have hws := am_wd_at (dA := dA) (ad := ad) haS
                  have hwv := am_wd_at (dA := dA) (ad := ad) hvS
                  obtain ⟨t0, ty, ht0, -, hob⟩ := am_kty (dA := dA) hvk (by omega)
                  have hob := hob (am_c S v) hc.1 hv13
                  subst hob
                  rw [am_ce_a rfl (by omega), am_ac_r rfl (by omega)] at hws
                  rw [am_ce_o rfl (by omega)] at hwv
                  refine va_astq hx hb hK hP hD hS a t0 v (am_c S v) hws ht0 hwv (am_cl _ hv13) hxi hd (fun H1 locs1 hP1 hD1 hS1 => ?_)
                  rw [am_wd_pr_a rfl (by omega)] at hP1 hD1
                  exact go (S' := am_pr S a x.toNatClampNeg v) h he (Nat.le_refl _) (Nat.le_refl _) am_ag.rf hP1 hD1 hS1 (hIv.pr hvS) hl
                all_goals exact am_noh h
            all_goals exact am_noh h
        all_goals exact am_noh h
    case saload =>
      rcases st with _ | ⟨v0, st⟩
      · exact am_noh h
      · cases v0
        case int x =>
          rcases st with _ | ⟨v1, st⟩
          · exact am_noh h
          · cases v1
            case ref a =>
              have h : (if am_c S a = 998 then (if x < 0 ∨ (am_i S (a + 1000000) 0).toNatClampNeg ≤ x.toNatClampNeg then none else am_run f y n (i + 1) lo (.int (am_i S a x.toNatClampNeg) :: st) S) else none) = some r := h
              by_cases hc : am_c S a = 998
              case neg => rw [if_neg hc] at h; exact am_noh h
              rw [if_pos hc] at h
              obtain ⟨j, hj, rfl⟩ := hIv.2.2.1 a hc
              have hT := hE.2.1 j hj
              have e1 : am_i S (2000000 + j + 1000000) 0 = nI (am_xl L j) := by rw [show 2000000 + j + 1000000 = 3000000 + j by omega]; exact hIv.2.2.2.2.1 j hj
              rw [e1] at h
              rw [nI_clamp (am_xl_lt hL31)] at h
              by_cases hxi : x < 0 ∨ am_xl L j ≤ x.toNatClampNeg
              · rw [if_pos hxi] at h; exact am_noh h
              rw [if_neg hxi] at h
              have hlt : x.toNatClampNeg < am_xl L j := Nat.not_le.mp fun q => hxi (Or.inr q)
              refine va_ti (v := .int (am_i S (2000000 + j) x.toNatClampNeg)) hx hb hT hS hxi (by rw [hIv.2.2.2.1 j hj _ hlt]) hd ?_
              exact gos h he hl
            all_goals exact am_noh h
        all_goals exact am_noh h
    case sastore =>
      rcases st with _ | ⟨v0, st⟩
      · exact am_noh h
      · cases v0
        case ref a =>
          have h : (if am_c S a = 998 then am_run f y n (i + 1) lo (.int (am_i S (a + 1000000) 0) :: st) S else none) = some r := h
          by_cases hc : am_c S a = 998
          case neg => rw [if_neg hc] at h; exact am_noh h
          rw [if_pos hc] at h
          obtain ⟨j, hj, rfl⟩ := hIv.2.2.1 a hc
          have hT := hE.2.1 j hj
          have e1 : am_i S (2000000 + j + 1000000) 0 = nI (am_xl L j) := by rw [show 2000000 + j + 1000000 = 3000000 + j by omega]; exact hIv.2.2.2.2.1 j hj
          rw [e1] at h
          refine va_tlen (v := nI (am_xl L j)) hx hb hT hS rfl hd ?_
          exact gos h he hl
        all_goals exact am_noh h
    case arraylength =>
      rcases st with _ | ⟨v0, st⟩
      · exact am_noh h
      · cases v0
        case ref a =>
          have h : (if 100 ≤ am_c S a ∧ am_c S a < 200 then am_run f y n (i + 1) lo (.int (nI (am_l S a)) :: st) S else none) = some r := h
          by_cases hc : 100 ≤ am_c S a ∧ am_c S a < 200
          case neg => rw [if_neg hc] at h; exact am_noh h
          rw [if_pos hc] at h
          obtain ⟨haS, hvk⟩ := hIv.1 a (by omega)
          have hws := am_wd_at (dA := dA) (ad := ad) haS
          rw [am_ce_a rfl (by omega)] at hws
          obtain ⟨t0, ty, ht0⟩ := am_kt1 (dA := dA) hvk hc.1
          refine va_alen (v := nI (am_l S a)) hx hb hK hP a t0 hws ht0 rfl hd ?_
          exact gos h he hl
        all_goals exact am_noh h
    case new k =>
      have h : (if am_gd S lo st = true then am_run f y n (i + 1) lo (.ref (am_n S) :: st) (am_mk S (k / 64) (k % 64)) else none) = some r := h
      by_cases hg : am_gd S lo st = true
      case neg => rw [if_neg hg] at h; exact am_noh h
      rw [if_pos hg] at h
      have hk : (decide (k / 64 < 13) && decide (k % 64 = am_N (k / 64)) && lk_n.contains (pg_ow y, q2, am_on (k / 64))) = true := hk
      generalize k / 64 = cc at h hk
      generalize k % 64 = nn at h hk
      simp only [Bool.and_eq_true, decide_eq_true_eq] at hk
      obtain ⟨⟨hc13, hnn⟩, hlk⟩ := hk
      subst hnn
      have hm : (pg_ow y, q2, am_on cc) ∈ lk_n := by simpa using hlk
      have hins := am_instn cc hc13
      have hmn := am_mono hmo y _ _ _ _ _ _ h
      have e1 : am_n (am_mk S cc (am_N cc)) = am_n S + 1 := rfl
      have e2 : am_w (am_mk S cc (am_N cc)) = am_w S + am_N cc := rfl
      rw [e1, e2] at hmn
      obtain ⟨hgn, hgl, hgs⟩ := am_gd_spec hg
      refine va_new (fs := am_fs (fun _ => 0) (am_mk S cc (am_N cc)) (am_n S) (am_ft cc) 0) hx hb hts (fun w hw => lw_gw_in (am_uw cc hc13 w hw) (am_uw_good w hw)) (am_ty cc) (am_tyok cc hc13) hown (hin (lk_n_ok _ hm) rfl) (hin hins.1 rfl) (hin hins.2 rfl) hK hP hD hS hA (am_cl cc hc13) (fun j hj => am_new_fs hc13 hj) (by omega) (by omega) hd (fun qa H1 hP1 hD1 hS1 => ?_)
      have gu : am_ag (am_n S) ad (am_up ad (am_n S) qa) := am_ag.up (by omega)
      have ew : am_wd dA ad S ++ [(qa, .inr (cc, am_fs (fun _ => 0) (am_mk S cc (am_N cc)) (am_n S) (am_ft cc) 0))] = am_wd dA (am_up ad (am_n S) qa) (am_mk S cc (am_N cc)) := by
        rw [am_wd_mk gu hIv.2.2.2.2.2.2.2.1, am_up_s, am_ce_o (am_mk_c S cc _) (by omega)]
        rw [am_fs_ag (ad := am_up ad (am_n S) qa) (ad' := fun _ => 0) (fun j r hr => by rw [am_mk_r] at hr; cases hr)]
      rw [ew] at hP1 hD1
      rw [show am_n S - n0 + 1 = am_n (am_mk S cc (am_N cc)) - n0 by rw [e1]; omega, show am_w S - w0 + am_N cc = am_w (am_mk S cc (am_N cc)) - w0 by rw [e2]; omega, ← am_okl_tr gu st hgs, show Value.ref qa = am_tr (am_up ad (am_n S) qa) (.ref (am_n S)) by show _ = Value.ref (am_up ad (am_n S) qa (am_n S)); rw [am_up_s]]
      exact go (st' := .ref (am_n S) :: st) h he (Nat.le_succ _) (Nat.le_add_right _ _) gu hP1 hD1 hS1 (hIv.mk (Or.inl hc13) (by omega)) (hl.ag gu hgl)
    case newarray t =>
      rcases st with _ | ⟨v0, st⟩
      · exact am_noh h
      · cases v0
        case int x =>
          have h : (if x < 0 ∨ 1000 < x.toNatClampNeg ∨ am_gd S lo st = false then none else (match t with
                | .int => am_run f y n (i + 1) lo (.ref (am_n S) :: st) (am_mk S 100 x.toNatClampNeg)
                | .byte => am_run f y n (i + 1) lo (.ref (am_n S) :: st) (am_mk S 101 x.toNatClampNeg)
                | .long => am_run f y n (i + 1) lo (.ref (am_n S) :: st) (am_mk S 102 x.toNatClampNeg)
                | _ => none)) = some r := h
          by_cases hz : x < 0 ∨ 1000 < x.toNatClampNeg ∨ am_gd S lo st = false
          · rw [if_pos hz] at h; exact am_noh h
          rw [if_neg hz] at h
          have hx0 : ¬ x < 0 := fun q => hz (Or.inl q)
          have hx1 : x.toNatClampNeg ≤ 1000 := Nat.not_lt.mp fun q => hz (Or.inr (Or.inl q))
          have hg : am_gd S lo st = true := by
            cases hgg : am_gd S lo st with
            | true => rfl
            | false => exact absurd (Or.inr (Or.inr hgg)) hz
          obtain ⟨hgn, hgl, hgs⟩ := am_gd_spec hg
          cases t
          case int =>
            have hgl0 : am_mk S 100 x.toNatClampNeg = am_mk S 100 x.toNatClampNeg := rfl
            have hmn := am_mono hmo y _ _ _ _ _ _ h
            have e1 : am_n (am_mk S 100 x.toNatClampNeg) = am_n S + 1 := rfl
            have e2 : am_w (am_mk S 100 x.toNatClampNeg) = am_w S + x.toNatClampNeg := rfl
            rw [e1, e2] at hmn
            refine va_newa (atype := .int) (ty := .int) (a0 := (x.toNatClampNeg, .inl (fun _ => 0))) hx hb (hin am_w_ai rfl) rfl hK hP hD hS hA (fun cA => rfl) hx0 rfl (by show x.toNatClampNeg * 4 ≤ 536870912; omega) (by omega) (by omega) hd (fun qa cA H1 hK1 hP1 hD1 hS1 => ?_)
            obtain rfl : cA = dA 100 := am_cA_int (hK.2 0 _ rfl).2 (hK1.2 9 (cA, .int) rfl).2
            have gu : am_ag (am_n S) ad (am_up ad (am_n S) qa) := am_ag.up (by omega)
            have ew : am_wd dA ad S ++ [(qa, .inl (dA 100, x.toNatClampNeg, .inl (fun _ => 0)))] = am_wd dA (am_up ad (am_n S) qa) (am_mk S 100 x.toNatClampNeg) := by
              rw [am_wd_mk gu hIv.2.2.2.2.2.2.2.1, am_up_s, am_ce_a (am_mk_c S 100 _) (by decide), am_ac_i (am_mk_c S 100 _) (by decide), am_mk_l, am_mk_i]
            rw [ew] at hP1 hD1
            rw [show am_n S - n0 + 1 = am_n (am_mk S 100 x.toNatClampNeg) - n0 by rw [e1]; omega, show am_w S - w0 + x.toNatClampNeg = am_w (am_mk S 100 x.toNatClampNeg) - w0 by rw [e2]; omega, ← am_okl_tr gu st hgs, show Value.ref qa = am_tr (am_up ad (am_n S) qa) (.ref (am_n S)) by show _ = Value.ref (am_up ad (am_n S) qa (am_n S)); rw [am_up_s]]
            exact go (st' := .ref (am_n S) :: st) h he (Nat.le_succ _) (Nat.le_add_right _ _) gu hP1 hD1 hS1 (hIv.mk (by unfold am_vk; omega) (by omega)) (hl.ag gu hgl)
          case byte =>
            have hgl0 : am_mk S 101 x.toNatClampNeg = am_mk S 101 x.toNatClampNeg := rfl
            have hmn := am_mono hmo y _ _ _ _ _ _ h
            have e1 : am_n (am_mk S 101 x.toNatClampNeg) = am_n S + 1 := rfl
            have e2 : am_w (am_mk S 101 x.toNatClampNeg) = am_w S + x.toNatClampNeg := rfl
            rw [e1, e2] at hmn
            refine va_newa (atype := .byte) (ty := .byte) (a0 := (x.toNatClampNeg, .inl (fun _ => 0))) hx hb (hin am_w_ab rfl) rfl hK hP hD hS hA (fun cA => rfl) hx0 rfl (by show x.toNatClampNeg * 1 ≤ 536870912; omega) (by omega) (by omega) hd (fun qa cA H1 hK1 hP1 hD1 hS1 => ?_)
            obtain rfl : cA = dA 101 := am_cA_byte (hK.2 1 _ rfl).2 (hK1.2 9 (cA, .byte) rfl).2
            have gu : am_ag (am_n S) ad (am_up ad (am_n S) qa) := am_ag.up (by omega)
            have ew : am_wd dA ad S ++ [(qa, .inl (dA 101, x.toNatClampNeg, .inl (fun _ => 0)))] = am_wd dA (am_up ad (am_n S) qa) (am_mk S 101 x.toNatClampNeg) := by
              rw [am_wd_mk gu hIv.2.2.2.2.2.2.2.1, am_up_s, am_ce_a (am_mk_c S 101 _) (by decide), am_ac_i (am_mk_c S 101 _) (by decide), am_mk_l, am_mk_i]
            rw [ew] at hP1 hD1
            rw [show am_n S - n0 + 1 = am_n (am_mk S 101 x.toNatClampNeg) - n0 by rw [e1]; omega, show am_w S - w0 + x.toNatClampNeg = am_w (am_mk S 101 x.toNatClampNeg) - w0 by rw [e2]; omega, ← am_okl_tr gu st hgs, show Value.ref qa = am_tr (am_up ad (am_n S) qa) (.ref (am_n S)) by show _ = Value.ref (am_up ad (am_n S) qa (am_n S)); rw [am_up_s]]
            exact go (st' := .ref (am_n S) :: st) h he (Nat.le_succ _) (Nat.le_add_right _ _) gu hP1 hD1 hS1 (hIv.mk (by unfold am_vk; omega) (by omega)) (hl.ag gu hgl)
          case long =>
            have hgl0 : am_mk S 102 x.toNatClampNeg = am_mk S 102 x.toNatClampNeg := rfl
            have hmn := am_mono hmo y _ _ _ _ _ _ h
            have e1 : am_n (am_mk S 102 x.toNatClampNeg) = am_n S + 1 := rfl
            have e2 : am_w (am_mk S 102 x.toNatClampNeg) = am_w S + x.toNatClampNeg := rfl
            rw [e1, e2] at hmn
            refine va_newa (atype := .long) (ty := .long) (a0 := (x.toNatClampNeg, .inr (.inl (fun _ => 0)))) hx hb (hin am_w_al rfl) rfl hK hP hD hS hA (fun cA => rfl) hx0 rfl (by show x.toNatClampNeg * 8 ≤ 536870912; omega) (by omega) (by omega) hd (fun qa cA H1 hK1 hP1 hD1 hS1 => ?_)
            obtain rfl : cA = dA 102 := am_cA_long (hK.2 2 _ rfl).2 (hK1.2 9 (cA, .long) rfl).2
            have gu : am_ag (am_n S) ad (am_up ad (am_n S) qa) := am_ag.up (by omega)
            have ew : am_wd dA ad S ++ [(qa, .inl (dA 102, x.toNatClampNeg, .inr (.inl (fun _ => 0))))] = am_wd dA (am_up ad (am_n S) qa) (am_mk S 102 x.toNatClampNeg) := by
              rw [am_wd_mk gu hIv.2.2.2.2.2.2.2.1, am_up_s, am_ce_a (am_mk_c S 102 _) (by decide), am_ac_j (am_mk_c S 102 _), am_mk_l, am_mk_j]
            rw [ew] at hP1 hD1
            rw [show am_n S - n0 + 1 = am_n (am_mk S 102 x.toNatClampNeg) - n0 by rw [e1]; omega, show am_w S - w0 + x.toNatClampNeg = am_w (am_mk S 102 x.toNatClampNeg) - w0 by rw [e2]; omega, ← am_okl_tr gu st hgs, show Value.ref qa = am_tr (am_up ad (am_n S) qa) (.ref (am_n S)) by show _ = Value.ref (am_up ad (am_n S) qa (am_n S)); rw [am_up_s]]
            exact go (st' := .ref (am_n S) :: st) h he (Nat.le_succ _) (Nat.le_add_right _ _) gu hP1 hD1 hS1 (hIv.mk (by unfold am_vk; omega) (by omega)) (hl.ag gu hgl)
          all_goals exact am_noh h
        all_goals exact am_noh h
    case anewarray k =>
      rcases st with _ | ⟨v0, st⟩
      · exact am_noh h
      · cases v0
        case int x =>
          have h : (if x < 0 ∨ 1000 < x.toNatClampNeg ∨ am_gd S lo st = false then none else am_run f y n (i + 1) lo (.ref (am_n S) :: st) (am_mk S (103 + k) x.toNatClampNeg)) = some r := h
          by_cases hz : x < 0 ∨ 1000 < x.toNatClampNeg ∨ am_gd S lo st = false
          · rw [if_pos hz] at h; exact am_noh h
          rw [if_neg hz] at h
          have hx0 : ¬ x < 0 := fun q => hz (Or.inl q)
          have hx1 : x.toNatClampNeg ≤ 1000 := Nat.not_lt.mp fun q => hz (Or.inr (Or.inl q))
          have hg : am_gd S lo st = true := by
            cases hgg : am_gd S lo st with
            | true => rfl
            | false => exact absurd (Or.inr (Or.inr hgg)) hz
          obtain ⟨hgn, hgl, hgs⟩ := am_gd_spec hg
          have hk : (decide (k = 1 ∨ k = 2 ∨ k = 7 ∨ k = 9) && lk_n.contains (pg_ow y, q2, am_on k)) = true := hk
          simp only [Bool.and_eq_true, decide_eq_true_eq] at hk
          obtain ⟨hk4, hlk⟩ := hk
          have hm : (pg_ow y, q2, am_on k) ∈ lk_n := by simpa using hlk
          have hmn := am_mono hmo y _ _ _ _ _ _ h
          have e1 : am_n (am_mk S (103 + k) x.toNatClampNeg) = am_n S + 1 := rfl
          have e2 : am_w (am_mk S (103 + k) x.toNatClampNeg) = am_w S + x.toNatClampNeg := rfl
          rw [e1, e2] at hmn
          have hvk : am_vk (103 + k) := by unfold am_vk; omega
          obtain ⟨t0, ty, ht0, -, hob⟩ := am_kty (dA := dA) hvk (by omega)
          have hob := hob k rfl (by omega)
          subst hob
          refine va_newq hx hb hown (hin (lk_n_ok _ hm) rfl) (hNW.2.2.1 k hk4) hK hP hD hS hA hx0 rfl (by omega) (by omega) (by omega) hd (fun qa cA H1 hK1 hP1 hD1 hS1 => ?_)
          obtain rfl : cA = dA (103 + k) := am_cA_obj (hK.2 t0 _ ht0).2 (hK1.2 9 (cA, .object (am_on k)) rfl).2
          have gu : am_ag (am_n S) ad (am_up ad (am_n S) qa) := am_ag.up (by omega)
          have ew : am_wd dA ad S ++ [(qa, .inl (dA (103 + k), x.toNatClampNeg, .inr (.inr (.inr (.inr (fun _ => none))))))] = am_wd dA (am_up ad (am_n S) qa) (am_mk S (103 + k) x.toNatClampNeg) := by
            rw [am_wd_mk gu hIv.2.2.2.2.2.2.2.1, am_up_s, am_ce_a (am_mk_c S (103 + k) _) (by omega), am_ac_r (am_mk_c S (103 + k) _) (by omega), am_mk_l, am_mk_r]
            rfl
          rw [ew] at hP1 hD1
          rw [show am_n S - n0 + 1 = am_n (am_mk S (103 + k) x.toNatClampNeg) - n0 by rw [e1]; omega, show am_w S - w0 + x.toNatClampNeg = am_w (am_mk S (103 + k) x.toNatClampNeg) - w0 by rw [e2]; omega, ← am_okl_tr gu st hgs, show Value.ref qa = am_tr (am_up ad (am_n S) qa) (.ref (am_n S)) by show _ = Value.ref (am_up ad (am_n S) qa (am_n S)); rw [am_up_s]]
          exact go (st' := .ref (am_n S) :: st) h he (Nat.le_succ _) (Nat.le_add_right _ _) gu hP1 hD1 hS1 (hIv.mk hvk (by omega)) (hl.ag gu hgl)
        all_goals exact am_noh h
    case multianewarray k e9 =>
      rcases st with _ | ⟨v0, st⟩
      · exact am_noh h
      · cases v0
        case int y9 =>
          rcases st with _ | ⟨v1, st⟩
          · exact am_noh h
          · cases v1
            case int x =>
              have h : (if x < 0 ∨ 100 < x.toNatClampNeg ∨ y9 < 0 ∨ 1000 < y9.toNatClampNeg ∨ am_gd S lo st = false then none else (match k with
                    | 0 => am_run f y n (i + 1) lo (.ref (am_n S) :: st) (am_rows (am_n S) 100 y9.toNatClampNeg x.toNatClampNeg 0 (am_mk S 180 x.toNatClampNeg))
                    | 1 => am_run f y n (i + 1) lo (.ref (am_n S) :: st) (am_rows (am_n S) 102 y9.toNatClampNeg x.toNatClampNeg 0 (am_mk S 182 x.toNatClampNeg))
                    | _ => none)) = some r := h
              by_cases hz : x < 0 ∨ 100 < x.toNatClampNeg ∨ y9 < 0 ∨ 1000 < y9.toNatClampNeg ∨ am_gd S lo st = false
              · rw [if_pos hz] at h; exact am_noh h
              rw [if_neg hz] at h
              have hx0 : ¬ x < 0 := fun q => hz (Or.inl q)
              have hx1 : x.toNatClampNeg ≤ 100 := Nat.not_lt.mp fun q => hz (Or.inr (Or.inl q))
              have hy0 : ¬ y9 < 0 := fun q => hz (Or.inr (Or.inr (Or.inl q)))
              have hy1 : y9.toNatClampNeg ≤ 1000 := Nat.not_lt.mp fun q => hz (Or.inr (Or.inr (Or.inr (Or.inl q))))
              have hg : am_gd S lo st = true := by
                cases hgg : am_gd S lo st with
                | true => rfl
                | false => exact absurd (Or.inr (Or.inr (Or.inr (Or.inr hgg)))) hz
              obtain ⟨hgn, hgl, hgs⟩ := am_gd_spec hg
              rcases k with _ | _ | k
              · have hk : lk_n.contains (pg_ow y, q2, "[[I") = true := hk
                have hm : (pg_ow y, q2, "[[I") ∈ lk_n := by simpa using hk
                have hmn := am_mono hmo y _ _ _ _ _ _ h
                have e0 : am_n (am_mk S 180 x.toNatClampNeg) = am_n S + 1 := rfl
                have e1 : am_n (am_rows (am_n S) 100 y9.toNatClampNeg x.toNatClampNeg 0 (am_mk S 180 x.toNatClampNeg)) = am_n S + 1 + x.toNatClampNeg := am_rows_n _ _ _ _ _ _
                have e2 : am_w (am_rows (am_n S) 100 y9.toNatClampNeg x.toNatClampNeg 0 (am_mk S 180 x.toNatClampNeg)) = am_w S + x.toNatClampNeg + x.toNatClampNeg * y9.toNatClampNeg := am_rows_w _ _ _ _ _ _
                rw [e1, e2] at hmn
                have hvk : am_vk 180 := by unfold am_vk; omega
                refine am_mna (ty := .int) (cA := dA 180) (cy := dA 100) (z := (y9.toNatClampNeg, .inl (fun _ => 0))) hx hb hown (hin (lk_n_ok _ hm) rfl) hNW.2.2.2.1 (hin am_w_ai rfl) (hK.2 7 (dA 180, .array .int) rfl).2 (hK.2 0 (dA 100, .int) rfl).2 hP hD hS hA hx0 hy0 (by omega) (by show y9.toNatClampNeg * 4 ≤ 536870912; omega) (by omega) rfl rfl (by omega) (by omega) (arrV_new _ _ _) hd (fun H1 hP1 hD1 hS1 => ?_)
                rw [am_wd_rowsE (dA := dA) (c0 := 180) (c := 100) (z := (y9.toNatClampNeg, .inl (fun _ => 0))) hIv.2.2.2.2.2.2.2.1 (by omega) (by omega) hgn hx1 rfl] at hP1 hD1
                rw [show am_n S - n0 + 1 + x.toNatClampNeg = am_n (am_rows (am_n S) 100 y9.toNatClampNeg x.toNatClampNeg 0 (am_mk S 180 x.toNatClampNeg)) - n0 by rw [e1]; omega, show am_w S - w0 + x.toNatClampNeg + x.toNatClampNeg * y9.toNatClampNeg = am_w (am_rows (am_n S) 100 y9.toNatClampNeg x.toNatClampNeg 0 (am_mk S 180 x.toNatClampNeg)) - w0 by rw [e2]; omega, ← am_okl_tr (am_adr_ag (n := am_n S) (h := H.size) (ad := ad)) st hgs, show Value.ref H.size = am_tr (am_adr (am_n S) H.size ad) (.ref (am_n S)) by show _ = Value.ref (am_adr (am_n S) H.size ad (am_n S + 0)); rw [am_adr_at 0 (by omega) (by omega)]; rfl]
                exact go (st' := .ref (am_n S) :: st) h he (by rw [e1]; omega) (by rw [e2]; omega) am_adr_ag hP1 hD1 hS1 (am_Iv.rows (by unfold am_vk; omega) _ _ (hIv.mk hvk (by omega)) (by rw [e0]; omega)) (hl.ag am_adr_ag hgl)
              · have hk : lk_n.contains (pg_ow y, q2, "[[J") = true := hk
                have hm : (pg_ow y, q2, "[[J") ∈ lk_n := by simpa using hk
                have hmn := am_mono hmo y _ _ _ _ _ _ h
                have e0 : am_n (am_mk S 182 x.toNatClampNeg) = am_n S + 1 := rfl
                have e1 : am_n (am_rows (am_n S) 102 y9.toNatClampNeg x.toNatClampNeg 0 (am_mk S 182 x.toNatClampNeg)) = am_n S + 1 + x.toNatClampNeg := am_rows_n _ _ _ _ _ _
                have e2 : am_w (am_rows (am_n S) 102 y9.toNatClampNeg x.toNatClampNeg 0 (am_mk S 182 x.toNatClampNeg)) = am_w S + x.toNatClampNeg + x.toNatClampNeg * y9.toNatClampNeg := am_rows_w _ _ _ _ _ _
                rw [e1, e2] at hmn
                have hvk : am_vk 182 := by unfold am_vk; omega
                refine am_mna (ty := .long) (cA := dA 182) (cy := dA 102) (z := (y9.toNatClampNeg, .inr (.inl (fun _ => 0)))) hx hb hown (hin (lk_n_ok _ hm) rfl) hNW.2.2.2.2 (hin am_w_al rfl) (hK.2 8 (dA 182, .array .long) rfl).2 (hK.2 2 (dA 102, .long) rfl).2 hP hD hS hA hx0 hy0 (by omega) (by show y9.toNatClampNeg * 8 ≤ 536870912; omega) (by omega) rfl rfl (by omega) (by omega) (arrV_new _ _ _) hd (fun H1 hP1 hD1 hS1 => ?_)
                rw [am_wd_rowsE (dA := dA) (c0 := 182) (c := 102) (z := (y9.toNatClampNeg, .inr (.inl (fun _ => 0)))) hIv.2.2.2.2.2.2.2.1 (by omega) (by omega) hgn hx1 rfl] at hP1 hD1
                rw [show am_n S - n0 + 1 + x.toNatClampNeg = am_n (am_rows (am_n S) 102 y9.toNatClampNeg x.toNatClampNeg 0 (am_mk S 182 x.toNatClampNeg)) - n0 by rw [e1]; omega, show am_w S - w0 + x.toNatClampNeg + x.toNatClampNeg * y9.toNatClampNeg = am_w (am_rows (am_n S) 102 y9.toNatClampNeg x.toNatClampNeg 0 (am_mk S 182 x.toNatClampNeg)) - w0 by rw [e2]; omega, ← am_okl_tr (am_adr_ag (n := am_n S) (h := H.size) (ad := ad)) st hgs, show Value.ref H.size = am_tr (am_adr (am_n S) H.size ad) (.ref (am_n S)) by show _ = Value.ref (am_adr (am_n S) H.size ad (am_n S + 0)); rw [am_adr_at 0 (by omega) (by omega)]; rfl]
                exact go (st' := .ref (am_n S) :: st) h he (by rw [e1]; omega) (by rw [e2]; omega) am_adr_ag hP1 hD1 hS1 (am_Iv.rows (by unfold am_vk; omega) _ _ (hIv.mk hvk (by omega)) (by rw [e0]; omega)) (hl.ag am_adr_ag hgl)
              · exact am_noh h
            all_goals exact am_noh h
        all_goals exact am_noh h
    case monitorenter =>
      rcases st with _ | ⟨v0, st⟩
      · exact am_noh h
      · cases v0
        case ref a =>
          have h : (if am_cat st ≤ 8 then am_run f y n (i + 1) lo st S else none) = some r := h
          by_cases hc : am_cat st ≤ 8
          case neg => rw [if_neg hc] at h; exact am_noh h
          rw [if_pos hc] at h
          have hk : lk_o.contains (pg_ow y, q2) = true := hk
          have hm : (pg_ow y, q2) ∈ lk_o := by simpa using hk
          refine W.objInit hx hb hown (hin (lk_o_ok _ hm) rfl) (hin am_w_oi rfl) (hin am_w_oc rfl) rfl (by rw [hml]; exact hl.1) rfl hd (by omega) ?_ ?_
          · show 2 * 0 + ((st.map (am_tr ad)).map fun v => v.category).sum + 12 ≤ R.locals
            rw [am_cat_tr]
            omega
          refine W.eq (g2 := F0 m (am_P y i + 3) ls (st.map (am_tr ad))) rfl ?_
          exact gos h he hl
        all_goals exact am_noh h
    case monitorexit =>
      rcases st with _ | ⟨v0, st⟩
      · exact am_noh h
      · cases v0
        case int nn =>
          rcases st with _ | ⟨v1, st⟩
          · exact am_noh h
          · cases v1
            case int dp =>
              rcases st with _ | ⟨v2, st⟩
              · exact am_noh h
              · cases v2
                case ref b =>
                  rcases st with _ | ⟨v3, st⟩
                  · exact am_noh h
                  · cases v3
                    case int sp =>
                      rcases st with _ | ⟨v4, st⟩
                      · exact am_noh h
                      · cases v4
                        case ref a =>
                          have h : (if am_cat st ≤ 8 ∧ am_c S a = 100 ∧ am_c S b = 100 then
                                (if sp < 0 ∨ dp < 0 ∨ nn < 0 ∨ am_l S a < sp.toNatClampNeg + nn.toNatClampNeg ∨ am_l S b < dp.toNatClampNeg + nn.toNatClampNeg then none
                                else am_run f y n (i + 1) lo st (am_cp S a b sp.toNatClampNeg dp.toNatClampNeg nn.toNatClampNeg)) else none) = some r := h
                          by_cases hc : am_cat st ≤ 8 ∧ am_c S a = 100 ∧ am_c S b = 100
                          case neg => rw [if_neg hc] at h; exact am_noh h
                          rw [if_pos hc] at h
                          obtain ⟨hc8, hca, hcb⟩ := hc
                          by_cases hz : sp < 0 ∨ dp < 0 ∨ nn < 0 ∨ am_l S a < sp.toNatClampNeg + nn.toNatClampNeg ∨ am_l S b < dp.toNatClampNeg + nn.toNatClampNeg
                          · rw [if_pos hz] at h; exact am_noh h
                          rw [if_neg hz] at h
                          have hk : lk_a.contains (pg_ow y, q2) = true := hk
                          have hm : (pg_ow y, q2) ∈ lk_a := by simpa using hk
                          have hwa := am_wd_at (dA := dA) (ad := ad) (hIv.1 a (by omega)).1
                          have hwb := am_wd_at (dA := dA) (ad := ad) (hIv.1 b (by omega)).1
                          rw [am_ce_a hca (by decide), am_ac_i hca (by decide)] at hwa
                          rw [am_ce_a hcb (by decide), am_ac_i hcb (by decide)] at hwb
                          refine va_copyi hx hb (by rw [hml]; exact hl.1.symm) hown (hin (lk_a_ok _ hm) rfl) (hin am_w_cn rfl) (hin am_w_cs rfl) (hin am_w_ci rfl) hK hP hD hS a b 0 0 hwa hwb rfl rfl rfl (fun q => hz (Or.inl q)) (fun q => hz (Or.inr (Or.inl q))) (fun q => hz (Or.inr (Or.inr (Or.inl q)))) (Nat.not_lt.mp fun q => hz (Or.inr (Or.inr (Or.inr (Or.inl q))))) (Nat.not_lt.mp fun q => hz (Or.inr (Or.inr (Or.inr (Or.inr q))))) (fun _ _ => rfl) (by omega) ?_ hd (fun H1 locs1 hP1 hD1 hS1 => ?_)
                          · rw [am_cat_tr]
                            have : nativeFrameWords "java/lang/System" "arraycopy" 5 ≤ 100 := by decide +kernel
                            omega
                          rw [am_wd_cp hcb] at hP1 hD1
                          exact go (S' := am_cp S a b sp.toNatClampNeg dp.toNatClampNeg nn.toNatClampNeg) h he (Nat.le_refl _) (Nat.le_refl _) am_ag.rf hP1 hD1 hS1 (hIv.wi (by omega)) hl
                        all_goals exact am_noh h
                    all_goals exact am_noh h
                all_goals exact am_noh h
            all_goals exact am_noh h
        all_goals exact am_noh h
    case castore =>
      rcases st with _ | ⟨v0, st⟩
      · exact am_noh h
      · cases v0
        case ref a =>
          have h : (if am_cat st ≤ 8 ∧ am_c S a = 997 then am_run f y n (i + 1) lo (.int (am_i S (a + 1000000) 0) :: st) S else none) = some r := h
          by_cases hc : am_cat st ≤ 8 ∧ am_c S a = 997
          case neg => rw [if_neg hc] at h; exact am_noh h
          rw [if_pos hc] at h
          obtain ⟨i0, hi0, rfl⟩ := hIv.2.1 a hc.2
          have e1 : am_i S (4000000 + i0 + 1000000) 0 = nI (am_sl.getD i0 0) := by rw [show 4000000 + i0 + 1000000 = 5000000 + i0 by omega]; exact hIv.2.2.2.2.2.2.1 i0 hi0
          rw [e1] at h
          have hk : lk_t.contains (pg_ow y, q2, 0) = true := hk
          have hm : (pg_ow y, q2, 0) ∈ lk_t := am_mem_lk hk
          have hmn := am_mono hmo y _ _ _ _ _ _ h
          refine am_callp (a := #[]) (va_runV (As := []) (rest := st.map (am_tr ad)) (C := "java/lang/String") ⟨hx, hb, hml, hown, hts⟩ (hstr A ad adV L xs i0 hi0).1 (cwV 0 hts (am_gtl hm) rfl rfl rfl ⟨rfl, by decide, by decide, by decide +kernel⟩ ⟨by show 2 + 1 ≤ _; omega, by show 8 + (1 + 11) + 64 ≤ _; omega⟩) ⟨am_Eb, vk_recv hE.2.2.1 hi0 hS, fun U hU hW => ⟨rfl, by show am_E A ad adV L xs U U.heap; rw [hU]; exact (hE.kept hS.2.1).warm hW⟩⟩ rfl rfl hl.1 rfl (lv_room (by rw [am_cat_tr]; exact hc.1)) hd ⟨by omega, by omega⟩) hS (fun locs1 hS1 => ?_)
          exact go (st' := .int (nI (am_sl.getD i0 0)) :: st) h he (Nat.le_refl _) (Nat.le_refl _) am_ag.rf hP hD hS1 hIv hl
        all_goals exact am_noh h
    case caload =>
      rcases st with _ | ⟨v0, st⟩
      · exact am_noh h
      · cases v0
        case int x =>
          rcases st with _ | ⟨v1, st⟩
          · exact am_noh h
          · cases v1
            case ref a =>
              have h : (if am_cat st ≤ 8 ∧ am_c S a = 997 then (if x < 0 ∨ (am_i S (a + 1000000) 0).toNatClampNeg ≤ x.toNatClampNeg then none else am_run f y n (i + 1) lo (.int (am_i S a x.toNatClampNeg) :: st) S) else none) = some r := h
              by_cases hc : am_cat st ≤ 8 ∧ am_c S a = 997
              case neg => rw [if_neg hc] at h; exact am_noh h
              rw [if_pos hc] at h
              obtain ⟨i0, hi0, rfl⟩ := hIv.2.1 a hc.2
              have e1 : am_i S (4000000 + i0 + 1000000) 0 = nI (am_sl.getD i0 0) := by rw [show 4000000 + i0 + 1000000 = 5000000 + i0 by omega]; exact hIv.2.2.2.2.2.2.1 i0 hi0
              rw [e1, nI_clamp (am_sl_lt i0)] at h
              by_cases hxi : x < 0 ∨ am_sl.getD i0 0 ≤ x.toNatClampNeg
              · rw [if_pos hxi] at h; exact am_noh h
              rw [if_neg hxi] at h
              obtain ⟨k0, hk31, rfl⟩ := nI_of (fun z => hxi (Or.inl z))
              rw [nI_clamp hk31] at h hxi
              have hk0 : k0 < am_sl.getD i0 0 := Nat.not_le.mp fun z => hxi (Or.inr z)
              rw [hIv.2.2.2.2.2.1 i0 hi0 k0 hk0] at h
              have hk : lk_t.contains (pg_ow y, q2, 1) = true := hk
              have hm : (pg_ow y, q2, 1) ∈ lk_t := am_mem_lk hk
              have hmn := am_mono hmo y _ _ _ _ _ _ h
              refine am_callp (a := #[]) (va_runV (As := [.int (nI k0)]) (rest := st.map (am_tr ad)) (C := "java/lang/String") ⟨hx, hb, hml, hown, hts⟩ ((hstr A ad adV L xs i0 hi0).2 k0 hk0) (cwV 1 hts (am_gtc hm) rfl rfl rfl ⟨rfl, by decide, by decide, by decide +kernel⟩ ⟨by show 6 + 1 ≤ _; omega, by show 8 + (2 + 11) + 256 ≤ _; omega⟩) ⟨am_Eb, vk_recv hE.2.2.1 hi0 hS, fun U hU hW => ⟨rfl, by show am_E A ad adV L xs U U.heap; rw [hU]; exact (hE.kept hS.2.1).warm hW⟩⟩ rfl rfl hl.1 rfl (lv_room (by rw [am_cat_tr]; exact hc.1)) hd ⟨by omega, by omega⟩) hS (fun locs1 hS1 => ?_)
              exact go (st' := .int ((am_bt.getD i0 []).getD k0 0) :: st) h he (Nat.le_refl _) (Nat.le_refl _) am_ag.rf hP hD hS1 hIv hl
            all_goals exact am_noh h
        all_goals exact am_noh h
    case invokestatic z =>
      have h : (if am_cat (st.drop (pg_sg z).1) ≤ 8 ∧ (st.take (pg_sg z).1).length = (pg_sg z).1 then (match (pg_sg z).2 with
            | 0 => am_bV (f z (st.take (pg_sg z).1).reverse S) fun S => am_run f y n (i + 1) lo (st.drop (pg_sg z).1) S
            | 1 => am_bI (f z (st.take (pg_sg z).1).reverse S) fun x S => am_run f y n (i + 1) lo (.int x :: st.drop (pg_sg z).1) S
            | 2 => am_bJ (f z (st.take (pg_sg z).1).reverse S) fun x S => am_run f y n (i + 1) lo (.long x :: st.drop (pg_sg z).1) S
            | _ => am_bA (f z (st.take (pg_sg z).1).reverse S) fun x S => am_run f y n (i + 1) lo (.ref x :: st.drop (pg_sg z).1) S) else none) = some r := h
      by_cases hc : am_cat (st.drop (pg_sg z).1) ≤ 8 ∧ (st.take (pg_sg z).1).length = (pg_sg z).1
      case neg => rw [if_neg hc] at h; exact am_noh h
      rw [if_pos hc] at h
      obtain ⟨v, S', hfz, hrun⟩ := am_ca_spec (K := fun st S => am_run f y n (i + 1) lo st S) h
      obtain ⟨hc8, hclen⟩ := hc
      have hsplit : st.map (am_tr ad) = (st.take (pg_sg z).1).map (am_tr ad) ++ (st.drop (pg_sg z).1).map (am_tr ad) := by rw [← List.map_append, List.take_append_drop]
      rw [hsplit]
      generalize st.take (pg_sg z).1 = tk at hfz hclen
      generalize st.drop (pg_sg z).1 = dr at hc8 hrun
      have hmz := hmo _ _ _ _ _ hfz
      have hmn := am_mono hmo y _ _ _ _ _ _ hrun
      have hM := hf _ _ _ _ _ hfz
      rcases q1 with _ | _ | q1
      · have hk : (am_cok z false && lk_m.contains (pg_ow y, q2, z) && ((pg_nm z).name != "<init>") && decide (pg_ow z < 13)) = true := hk
        simp only [Bool.and_eq_true, decide_eq_true_eq] at hk
        obtain ⟨⟨⟨hk1, hk2⟩, hk3⟩, hk4⟩ := hk
        have hn' := hnc _ _ _ _ _ (Or.inr ⟨hk1, hk3⟩) hfz
        obtain ⟨b, As, has, hb1⟩ := hrc _ _ _ _ _ hfz (am_cok_spec hk1).2.1
        have htk : tk = As.reverse ++ [.ref b] := by rw [← List.reverse_reverse tk, has, List.reverse_cons]
        subst htk
        rw [has] at hM
        rw [show (As.reverse ++ [Value.ref b]).map (am_tr ad) ++ dr.map (am_tr ad) = (As.map (am_tr ad)).reverse ++ .ref (ad b) :: dr.map (am_tr ad) by rw [List.map_append, List.map_reverse, List.append_assoc]; rfl]
        refine am_cl0 hC hM hL31 (am_mem_lk hk2) hk1 (by simpa using hk3) hk4 hb1 (by rw [← hclen]; simp) hP hD hS hIv hE hl.1 hc8 hd hR1 hR2 ⟨by omega, by omega⟩ (fun ad' H1 locs1 hg hP1 hD1 hS1 hI1 hr1 => ?_)
        rw [am_wd_ag (by rw [hn']; exact hg) hI1.2.2.2.2.2.2.2.1] at hP1 hD1
        rw [show (v.map (am_tr ad')).toList ++ dr.map (am_tr ad) = (v.toList ++ dr).map (am_tr ad) from am_ans hg hr1 dr, show am_n S - n0 + (am_n S' - am_n S) = am_n S' - n0 by omega, show am_w S - w0 + (am_w S' - am_w S) = am_w S' - w0 by omega]
        exact go hrun he hmz.1 hmz.2 am_ag.rf hP1 hD1 hS1 hI1 hl

      · have hk : (am_cok z true && lk_m.contains (pg_ow y, q2, z)) = true := hk
        simp only [Bool.and_eq_true] at hk
        have hn' := hnc _ _ _ _ _ (Or.inl hk.1) hfz
        rw [show tk.map (am_tr ad) ++ dr.map (am_tr ad) = (tk.reverse.map (am_tr ad)).reverse ++ dr.map (am_tr ad) by rw [List.map_reverse, List.reverse_reverse]]
        refine am_cl1 hC hM hL31 (am_mem_lk hk.2) hk.1 (by rw [List.length_reverse]; exact hclen) hP hD hS hIv hE hl.1 hc8 hd hR1 hR2 ⟨by omega, by omega⟩ (fun ad' H1 locs1 hg hP1 hD1 hS1 hI1 hr1 => ?_)
        rw [am_wd_ag (by rw [hn']; exact hg) hI1.2.2.2.2.2.2.2.1] at hP1 hD1
        rw [show (v.map (am_tr ad')).toList ++ dr.map (am_tr ad) = (v.toList ++ dr).map (am_tr ad) from am_ans hg hr1 dr, show am_n S - n0 + (am_n S' - am_n S) = am_n S' - n0 by omega, show am_w S - w0 + (am_w S' - am_w S) = am_w S' - w0 by omega]
        exact go hrun he hmz.1 hmz.2 am_ag.rf hP1 hD1 hS1 hI1 hl

      · have hk : (am_cok z true && lk_nm.contains (pg_ow y, q2, z, 11)) = true := hk
        simp only [Bool.and_eq_true] at hk
        have hn' := hnc _ _ _ _ _ (Or.inl hk.1) hfz
        rw [show tk.map (am_tr ad) ++ dr.map (am_tr ad) = (tk.reverse.map (am_tr ad)).reverse ++ dr.map (am_tr ad) by rw [List.map_reverse, List.reverse_reverse]]
        refine am_cl2 hC hM hL31 (by simpa using hk.2) hk.1 (by rw [List.length_reverse]; exact hclen) hP hD hS hIv hE hl.1 hc8 hd hR1 hR2 ⟨by omega, by omega⟩ (fun ad' H1 locs1 hg hP1 hD1 hS1 hI1 hr1 => ?_)
        rw [am_wd_ag (by rw [hn']; exact hg) hI1.2.2.2.2.2.2.2.1] at hP1 hD1
        rw [show (v.map (am_tr ad')).toList ++ dr.map (am_tr ad) = (v.toList ++ dr).map (am_tr ad) from am_ans hg hr1 dr, show am_n S - n0 + (am_n S' - am_n S) = am_n S' - n0 by omega, show am_w S - w0 + (am_w S' - am_w S) = am_w S' - w0 by omega]
        exact go hrun he hmz.1 hmz.2 am_ag.rf hP1 hD1 hS1 hI1 hl
    case invokespecial z =>
      have h : (if am_gd S lo (st.drop (pg_sg z).1) = true ∧ am_cat (st.drop (pg_sg z).1) ≤ 8 ∧ (st.take (pg_sg z).1).length = (pg_sg z).1 ∧ (pg_sg z).2 = 0 then am_bV (f z (st.take (pg_sg z).1).reverse S) (fun S => am_run f y n (i + 1) lo (st.drop (pg_sg z).1) S) else none) = some r := h
      by_cases hc : am_gd S lo (st.drop (pg_sg z).1) = true ∧ am_cat (st.drop (pg_sg z).1) ≤ 8 ∧ (st.take (pg_sg z).1).length = (pg_sg z).1 ∧ (pg_sg z).2 = 0
      case neg => rw [if_neg hc] at h; exact am_noh h
      rw [if_pos hc] at h
      obtain ⟨hg0, hc8, hclen, -⟩ := hc
      obtain ⟨hgn, hgl, hgs⟩ := am_gd_spec hg0
      obtain ⟨S', hfz, hrun⟩ := am_bV_spec h
      have hsplit : st.map (am_tr ad) = (st.take (pg_sg z).1).map (am_tr ad) ++ (st.drop (pg_sg z).1).map (am_tr ad) := by rw [← List.map_append, List.take_append_drop]
      rw [hsplit]
      clear h
      generalize st.take (pg_sg z).1 = tk at hfz hclen
      generalize st.drop (pg_sg z).1 = dr at hc8 hrun hgs hg0
      have hmz := hmo _ _ _ _ _ hfz
      have hmn := am_mono hmo y _ _ _ _ _ _ hrun
      have hM := hf _ _ _ _ _ hfz
      have hk : (am_cok z false && ((pg_nm z).name == "<init>") && (pg_rt z == none) && (match (generalizing := false) q1 with
            | 2 => lk_m.contains (pg_ow y, q2, z)
            | _ => lk_nm.contains (pg_ow y, q2, z, 11))) = true := hk
      simp only [Bool.and_eq_true] at hk
      obtain ⟨⟨⟨hk1, hk2⟩, hk3⟩, hk4⟩ := hk
      have hk2 : (pg_nm z).name = "<init>" := by simpa using hk2
      have hk3 : pg_rt z = none := by simpa using hk3
      obtain ⟨b, As, has, hb1⟩ := hrc _ _ _ _ _ hfz (am_cok_spec hk1).2.1
      have htk : tk = As.reverse ++ [.ref b] := by rw [← List.reverse_reverse tk, has, List.reverse_cons]
      subst htk
      rw [has] at hM
      rw [show (As.reverse ++ [Value.ref b]).map (am_tr ad) ++ dr.map (am_tr ad) = (As.map (am_tr ad)).reverse ++ .ref (ad b) :: dr.map (am_tr ad) by rw [List.map_append, List.map_reverse, List.append_assoc]; rfl]
      have fin : ∀ (ad' : Nat → Nat) (H1 : Heap) (locs1 : List Loc), am_ag (am_n S) ad ad' → va_P D vwCl (am_wd dA ad' S') H1 → va_D A (am_wd dA ad' S') → va_S A s.heap H1 locs1 → am_Iv L xs S' → (∀ x, (none : Option Value) = some (.ref x) → 2000000 ≤ x) → W p l e R s m args below meth c H1 locs1 (am_n S - n0 + (am_n S' - am_n S)) (am_w S - w0 + (am_w S' - am_w S)) Q (F0 m (am_P y i + 3) ls (((none : Option Value).map (am_tr ad')).toList ++ dr.map (am_tr ad))) := by
        intro ad' H1 locs1 hg hP1 hD1 hS1 hI1 hr1
        rw [show ((none : Option Value).map (am_tr ad')).toList ++ dr.map (am_tr ad) = dr.map (am_tr ad') from (am_okl_tr hg dr hgs).symm, show am_n S - n0 + (am_n S' - am_n S) = am_n S' - n0 by omega, show am_w S - w0 + (am_w S' - am_w S) = am_w S' - w0 by omega]
        exact go hrun he hmz.1 hmz.2 hg hP1 hD1 hS1 hI1 (hl.ag hg hgl)
      by_cases hq : q1 = 2
      · subst hq
        exact am_cl3 hC hM hL31 (am_mem_lk hk4) hk1 hk2 hk3 (by rw [← hclen]; simp) hP hD hS hIv hE hl.1 hc8 hd hR1 hR2 ⟨by omega, by omega⟩ fin
      · have hk4 : lk_nm.contains (pg_ow y, q2, z, 11) = true := by
          split at hk4
          · exact absurd rfl hq
          · exact hk4
        exact am_cl4 hC hM hL31 (by simpa using hk4) hk1 hk2 hk3 (by rw [← hclen]; simp) hP hD hS hIv hE hl.1 hc8 hd hR1 hR2 ⟨by omega, by omega⟩ fin
    case ireturn =>
      rcases st with _ | ⟨v, _ | ⟨w, st⟩⟩
      · exact am_noh h
      · cases v
        case int x =>
          cases (show some (some (.int x), S) = some r from h)
          exact hI _ _ _ _ _ _ _ hd (by have hk : (pg_rt y == some .int) = true := hk; simpa using hk) rfl hag hPt'
        all_goals exact am_noh h
      · cases v <;> exact am_noh h
    case freturn =>
      rcases st with _ | ⟨v, _ | ⟨w, st⟩⟩
      · exact am_noh h
      · cases v
        case int x =>
          have h : (if x = 0 ∨ x = 1 then some (some (.int x), S) else none) = some r := h
          by_cases hx01 : x = 0 ∨ x = 1
          case neg => rw [if_neg hx01] at h; exact am_noh h
          rw [if_pos hx01] at h
          cases h
          exact hZ _ _ _ _ _ _ _ hd (by have hk : (pg_rt y == some .boolean) = true := hk; simpa using hk) hx01 rfl hag hPt'
        all_goals exact am_noh h
      · cases v <;> exact am_noh h
    case lreturn =>
      rcases st with _ | ⟨v, _ | ⟨w, st⟩⟩
      · exact am_noh h
      · cases v
        case long x =>
          cases (show some (some (.long x), S) = some r from h)
          exact hJ _ _ _ _ _ _ _ hd (by have hk : (pg_rt y == some .long) = true := hk; simpa using hk) rfl hag hPt'
        all_goals exact am_noh h
      · cases v <;> exact am_noh h
    case areturn =>
      rcases st with _ | ⟨v, _ | ⟨w, st⟩⟩
      · exact am_noh h
      · cases v
        case ref x =>
          have h : (if 2000000 ≤ x then some (some (.ref x), S) else none) = some r := h
          by_cases hx2 : 2000000 ≤ x
          case neg => rw [if_neg hx2] at h; exact am_noh h
          rw [if_pos hx2] at h
          cases h
          have hk : (match pg_rt y with | some (.object _) => true | _ => false) = true := hk
          refine hO _ _ _ _ _ _ _ hd ?_ hx2 rfl hag hPt'
          split at hk
          case h_1 t ht => exact ⟨t, ht⟩
          case h_2 => cases hk
        all_goals exact am_noh h
      · cases v <;> exact am_noh h
    case return_ =>
      rcases st with _ | ⟨v, st⟩
      · cases (show some ((none : Option Value), S) = some r from h)
        exact hV _ _ _ _ _ _ hd (by have hk : (pg_rt y == none) = true := hk; simpa using hk) rfl hag hPt'
      · exact am_noh h
    all_goals exact am_noh h
end SND
