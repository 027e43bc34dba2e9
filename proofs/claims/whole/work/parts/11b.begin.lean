/-! ===== what the claim's premises give at the start ===== -/
def am_tmL : List (String × Nat) := [("OneIsTwo$Law", 24), ("OneIsTwo$Law", 26), ("OneIsTwo$Law", 28), ("OneIsTwo$Law", 30), ("OneIsTwo$Law", 32), ("OneIsTwo$Law", 34), ("OneIsTwo$LawReader", 36), ("OneIsTwo$LawReader", 49), ("OneIsTwo$LawReader", 66), ("OneIsTwo$LawReader", 75), ("OneIsTwo$LawReader", 77), ("OneIsTwo$LawReader", 90)]
def am_tm (i : Nat) : Term := .string (am_tmL.getD i ("", 0)).1 (am_tmL.getD i ("", 0)).2
theorem am_lks : ∀ q ∈ lk_s, q.2.2 < 12 ∧ am_tm q.2.2 = .string (am_on q.1) q.2.1 := by
  intro q hq
  have h : ∀ q ∈ lk_s, q.2.2 < 12 ∧ (am_tmL.getD q.2.2 ("", 0)).1 = am_on q.1 ∧ (am_tmL.getD q.2.2 ("", 0)).2 = q.2.1 := by decide +kernel
  obtain ⟨h1, h2, h3⟩ := h q hq
  exact ⟨h1, by unfold am_tm; rw [h2, h3]⟩
section BG
variable {s : State} {b L : Nat} {xs : Nat → Int32} {args : Array Value}
theorem am_RA_prim {t : FieldType} (h : (Cond.arrayClass t).before args s = true) : ∃ c, s.vm.findClass ("[" ++ t.toString) = some c ∧ ArrOfT s c t := by
  obtain ⟨c, k, comp, h1, h2, h3⟩ := Cond.arrayClass_spec (h : (Cond.arrayClass t).holds args s none s [] = true)
  exact ⟨c, h1, fun n z => ⟨(fun q hq => by cases hq), k, h2, comp, h3⟩⟩
theorem am_RA_obj {C : String} (h : (Cond.arrayOver (.object C)).before args s = true) : ∃ c, va_RA s c (.object C) ∧ ArrOfT s c (.object C) := by
  obtain ⟨comp, c, k, h1, h2, h3, h4, h5⟩ := Cond.arrayOver_spec (h : (Cond.arrayOver (.object C)).holds args s none s [] = true)
  exact ⟨c, ⟨k, comp, h3, h4, h1, h5⟩, fun n z => ⟨(fun q hq => by cases hq), k, h3, comp, h4⟩⟩
theorem am_RA_arr {t : FieldType} (h : (Cond.arrayOver (.array t)).before args s = true) : ∃ c, s.vm.findClass ("[" ++ (FieldType.array t).toString) = some c ∧ ArrOfT s c (.array t) := by
  obtain ⟨comp, c, k, h1, h2, h3, h4, h5⟩ := am_overA h
  exact ⟨c, h5, fun n z => ⟨(fun q hq => by cases hq), k, h3, comp, h4⟩⟩
set_option maxRecDepth 100000 in
theorem am_bgw : ∀ w ∈ [Cond.laysStatic "OneIsTwo$Actor" "BEARS" "[I", Cond.laysStatic "OneIsTwo$Actor" "KNOWS" "[I", Cond.laysStatic "OneIsTwo$Actor" "SHARES" "[I", Cond.laysStatic "OneIsTwo$Actor" "TELLS" "[I", Cond.initialized "OneIsTwo$Actor", Cond.laysStatic "java/lang/String" "COMPACT_STRINGS" "Z", Cond.initialized "java/lang/String", Cond.laysStatic "jdk/internal/util/Preconditions" "SIOOBE_FORMATTER" "Ljava/util/function/BiFunction;", Cond.initialized "jdk/internal/util/Preconditions",
    Cond.arrayClass .int, Cond.arrayClass .byte, Cond.arrayClass .long, Cond.arrayOver (.object "OneIsTwo$Claim"), Cond.arrayOver (.object "OneIsTwo$Event"), Cond.arrayOver (.object "OneIsTwo$Person"), Cond.arrayOver (.object "OneIsTwo$Wedding"), Cond.arrayOver (.array .int), Cond.arrayOver (.array .long)], w ∈ lw_tbl :=
  lk_sub [1178, 1180, 1182, 1184, 110, 743, 112, 759, 114, 165, 473, 413, 138, 136, 134, 140, 504, 502] rfl
theorem am_bgi (k : Nat) {w : Cond} (h : [Cond.laysStatic "OneIsTwo$Actor" "BEARS" "[I", Cond.laysStatic "OneIsTwo$Actor" "KNOWS" "[I", Cond.laysStatic "OneIsTwo$Actor" "SHARES" "[I", Cond.laysStatic "OneIsTwo$Actor" "TELLS" "[I", Cond.initialized "OneIsTwo$Actor", Cond.laysStatic "java/lang/String" "COMPACT_STRINGS" "Z", Cond.initialized "java/lang/String", Cond.laysStatic "jdk/internal/util/Preconditions" "SIOOBE_FORMATTER" "Ljava/util/function/BiFunction;", Cond.initialized "jdk/internal/util/Preconditions",
    Cond.arrayClass .int, Cond.arrayClass .byte, Cond.arrayClass .long, Cond.arrayOver (.object "OneIsTwo$Claim"), Cond.arrayOver (.object "OneIsTwo$Event"), Cond.arrayOver (.object "OneIsTwo$Person"), Cond.arrayOver (.object "OneIsTwo$Wedding"), Cond.arrayOver (.array .int), Cond.arrayOver (.array .long)][k]? = some w) : w ∈ lw_tbl := am_bgw _ (List.mem_of_getElem? h)
set_option maxRecDepth 100000 in
theorem am_nr_s : ∀ i, i < 12 → Cond.exactly (am_tm i) "java/lang/String" ∈ flatC narrow_1 ∧ Cond.eq (.field (am_tm i) "java/lang/String" "coder" "B") (.int 0) ∈ flatC narrow_1 ∧ Cond.arrayOf (.field (am_tm i) "java/lang/String" "value" "[B") .byte ∈ flatC narrow_1 ∧ Cond.eq (.length (.field (am_tm i) "java/lang/String" "value" "[B")) (.int (Int32.ofNat (am_sl.getD i 0))) ∈ flatC narrow_1 := by decide +kernel
/-- where the words of the texts stand -/
def am_bs : List Nat := [147, 173, 195, 217, 245, 265, 107, 286, 373, 356, 299, 314]
set_option maxRecDepth 100000 in
theorem am_nr_e1 : ∀ i, i < 12 → ∀ j, j < am_sl.getD i 0 → (flatC narrow_1)[am_bs.getD i 0 + j]? = some (Cond.eq (.elem (.field (am_tm i) "java/lang/String" "value" "[B") (.int (Int32.ofNat j))) (.int ((am_bt.getD i []).getD j 0))) := by decide +kernel
theorem am_nr_e : ∀ i, i < 12 → ∀ j, j < am_sl.getD i 0 → Cond.eq (.elem (.field (am_tm i) "java/lang/String" "value" "[B") (.int (Int32.ofNat j))) (.int ((am_bt.getD i []).getD j 0)) ∈ flatC narrow_1 := fun i hi j hj => List.mem_of_getElem? (am_nr_e1 i hi j hj)
def am_bn : List Nat := [390, 190, 211, 238, 257, 277, 390, 289, 376, 360, 303, 344, 390, 390, 212, 239, 258, 278, 390, 290, 377, 361, 304, 345, 390, 390, 390, 240, 259, 279, 390, 291, 378, 362, 305, 346, 390, 390, 390, 390, 260, 280, 390, 292, 379, 363, 306, 347, 390, 390, 390, 390, 390, 281, 390, 293, 380, 364, 307, 348, 390, 390, 390, 390, 390, 390, 390, 294, 381, 365, 308, 349, 168, 189, 210, 237, 256, 276, 390, 288, 375, 359, 302, 343, 390, 390, 390, 390, 390, 390, 390, 390, 382, 366, 309, 350, 390, 390, 390, 390, 390, 390, 390, 390, 390, 390, 390, 390, 390, 390, 390, 390, 390, 390, 390, 390, 385, 390, 390, 390, 390, 390, 390, 390, 390, 390, 390, 390, 383, 367, 390, 351, 390, 390, 390, 390, 390, 390, 390, 390, 384, 368, 390, 390]
set_option maxRecDepth 100000 in
theorem am_nr_n1 : ∀ i, i < 12 → ∀ j, j < 12 → am_bn.getD (12 * i + j) 0 = 390 ∨ (flatC narrow_1)[am_bn.getD (12 * i + j) 0]? = some (Cond.not (Cond.eq (am_tm i) (am_tm j))) := by decide +kernel
theorem am_nr_n2 : ∀ i, i < 12 → ∀ j, j < 12 → i ≠ j → am_bn.getD (12 * i + j) 0 ≠ 390 ∨ am_bn.getD (12 * j + i) 0 ≠ 390 := by decide +kernel
theorem am_nr_n : ∀ i, i < 12 → ∀ j, j < 12 → i ≠ j → Cond.not (Cond.eq (am_tm i) (am_tm j)) ∈ flatC narrow_1 ∨ Cond.not (Cond.eq (am_tm j) (am_tm i)) ∈ flatC narrow_1 := fun i hi j hj hij => by
  rcases am_nr_n2 i hi j hj hij with h | h
  · rcases am_nr_n1 i hi j hj with h2 | h2
    · exact absurd h2 h
    · exact Or.inl (List.mem_of_getElem? h2)
  · rcases am_nr_n1 j hj i hi with h2 | h2
    · exact absurd h2 h
    · exact Or.inr (List.mem_of_getElem? h2)
set_option maxRecDepth 100000 in
theorem am_nr_a : ∀ j, j < 4 → Cond.arrayOf (.static "OneIsTwo$Actor" (am_gx j) "[I") .int ∈ flatC narrow_1 ∧ Cond.eq (.length (.static "OneIsTwo$Actor" (am_gx j) "[I")) (.int (Int32.ofNat 8)) ∈ flatC narrow_1 ∧ ∀ k, k < 8 → Cond.eq (.elem (.static "OneIsTwo$Actor" (am_gx j) "[I") (.int (Int32.ofNat k))) (.int ((am_st j).getD k 0)) ∈ flatC narrow_1 := by decide +kernel
set_option maxRecDepth 100000 in
theorem am_nr_z : Cond.eq (.static "java/lang/String" "COMPACT_STRINGS" "Z") (.int 1) ∈ flatC narrow_1 ∧ Cond.isRef (.static "jdk/internal/util/Preconditions" "SIOOBE_FORMATTER" "Ljava/util/function/BiFunction;") ∈ flatC narrow_1 := by decide +kernel
theorem am_and_r {p q : Cond} {args : Array Value} {s : State} (h : (Cond.and p q).before args s = true) : q.before args s = true := by
  rw [Cond.before_and] at h
  exact (Bool.and_eq_true _ _ ▸ h).2
set_option maxHeartbeats 4000000 in
theorem am_begin {b L : Nat} (hL : L ≤ 3072) (hts : ∀ w ∈ lw_tbl, w.before #[.ref b] s = true) (hg : (Cond.and given_1 narrow_1).before #[.ref b] s = true) (hX : va_X b L xs s s.heap) (hb : b < s.heap.size) :
    ∃ (D : va_G) (dA : Nat → ClassId) (ad adV : Nat → Nat), va_K D vwCl (am_tys dA) s ∧ am_NW s ∧ am_E (fun q => s.heap.size ≤ q) ad adV L xs s s.heap ∧ ad 2000004 = b := by
  have hs := flat_of_before _ (am_and_r hg)
  have hA : ∀ a : Nat, a < s.heap.size → ¬ (fun q => s.heap.size ≤ q) a := fun a h => Nat.not_le.mpr h
  have hK : ∀ c, ∃ q : ClassId × (Nat → Nat), c < 13 → u_Kn s (am_on c) (am_T c) (am_N c) q.1 q.2 := by
    intro c
    by_cases hc : c < 13
    · obtain ⟨cC, iS, h⟩ := u_known hts (am_uw c hc) (hts _ (am_instn c hc).1)
      exact ⟨(cC, iS), fun _ => h⟩
    · exact ⟨(0, fun _ => 0), fun h => absurd h hc⟩
  obtain ⟨dd, hdd⟩ := Classical.axiomOfChoice hK
  obtain ⟨c100, r100, o100⟩ := am_RA_prim (hts _ (am_bgi 9 rfl))
  obtain ⟨c101, r101, o101⟩ := am_RA_prim (hts _ (am_bgi 10 rfl))
  obtain ⟨c102, r102, o102⟩ := am_RA_prim (hts _ (am_bgi 11 rfl))
  obtain ⟨c104, r104, o104⟩ := am_RA_obj (hts _ (am_bgi 12 rfl))
  obtain ⟨c105, r105, o105⟩ := am_RA_obj (hts _ (am_bgi 13 rfl))
  obtain ⟨c110, r110, o110⟩ := am_RA_obj (hts _ (am_bgi 14 rfl))
  obtain ⟨c112, r112, o112⟩ := am_RA_obj (hts _ (am_bgi 15 rfl))
  obtain ⟨c180, r180, o180⟩ := am_RA_arr (hts _ (am_bgi 16 rfl))
  obtain ⟨c182, r182, o182⟩ := am_RA_arr (hts _ (am_bgi 17 rfl))
  obtain ⟨adK, adV, hS, hSt⟩ := vk_Sof (args := #[Value.ref b]) (s := s) (N := 12) (tm := am_tm) (len := am_sl) (byt := am_bt) (fun i _ => am_sl_lt i) (fun i hi => hs _ (am_nr_s i hi).1) (fun i hi => hs _ (am_nr_s i hi).2.1) (fun i hi => hs _ (am_nr_s i hi).2.2.1) (fun i hi => hs _ (am_nr_s i hi).2.2.2) (fun i hi j hj => hs _ (am_nr_e i hi j hj)) (fun i j hi hj hij => (am_nr_n i hi j hj hij).imp (hs _) (hs _)) hA
  have hT : ∀ j, ∃ t : Nat, j < 4 → (Term.static "OneIsTwo$Actor" (am_gx j) "[I").eval #[Value.ref b] s none [] s = some (.ref t) ∧ va_T .int t 8 (fun k => .int ((am_st j).getD k 0)) (fun q => s.heap.size ≤ q) s s.heap := by
    intro j
    by_cases hj : j < 4
    · obtain ⟨h1, h2, h3⟩ := am_nr_a j hj
      obtain ⟨t, ht, hT⟩ := va_Tof (f := fun k => .int ((am_st j).getD k 0)) (by decide) (hs _ h1) (va_eqt (hs _ h2)) (fun k hk => va_eqt (hs _ (h3 k hk))) hA
      exact ⟨t, fun _ => ⟨ht, hT⟩⟩
    · exact ⟨0, fun h => absurd h hj⟩
  obtain ⟨tt, htt⟩ := Classical.axiomOfChoice hT
  have hls : ∀ j, j < 4 → Cond.laysStatic "OneIsTwo$Actor" (am_gx j) "[I" ∈ lw_tbl := by
    intro j hj
    match j, hj with
    | 0, _ => exact am_bgi 0 rfl
    | 1, _ => exact am_bgi 1 rfl
    | 2, _ => exact am_bgi 2 rfl
    | 3, _ => exact am_bgi 3 rfl
    | j + 4, h => exact absurd h (by omega)
  refine ⟨(fun c => (dd c).1, fun c => (dd c).2), fun k => match k with
    | 100 => c100 | 101 => c101 | 102 => c102 | 104 => c104 | 105 => c105 | 110 => c110 | 112 => c112 | 180 => c180 | _ => c182,
    fun q => if q < 2000004 then tt (q - 2000000) else if q = 2000004 then b else adK (q - 4000000), adV, ⟨fun c q hq => ?_, fun k q hk => ?_⟩, ⟨fun q hq => va_Nw.of rfl (hts _ (lk_nm_ok _ (List.mem_map_of_mem hq))), va_Nw.of rfl (hts _ lk_fn_ok), fun k hk => ?_, hts _ (am_bgi 16 rfl), hts _ (am_bgi 17 rfl)⟩, ⟨fun j hj => ?_, fun j hj => ?_, ?_, fun q hq => ?_, ?_, ?_⟩, ?_⟩
  · have hc : c < 13 := (List.getElem?_eq_some_iff.mp hq).1
    rw [am_cl c hc] at hq
    cases hq
    exact hdd c hc
  · unfold am_tys at hk
    rcases k with _ | _ | _ | _ | _ | _ | _ | _ | _ | k
    · cases hk; exact ⟨o100, r100⟩
    · cases hk; exact ⟨o101, r101⟩
    · cases hk; exact ⟨o102, r102⟩
    · cases hk; exact ⟨o104, r104⟩
    · cases hk; exact ⟨o105, r105⟩
    · cases hk; exact ⟨o110, r110⟩
    · cases hk; exact ⟨o112, r112⟩
    · cases hk; exact ⟨o180, r180⟩
    · cases hk; exact ⟨o182, r182⟩
    · simp at hk
  · rcases hk with rfl | rfl | rfl | rfl
    · exact va_AO.of (hts _ (am_bgi 12 rfl))
    · exact va_AO.of (hts _ (am_bgi 13 rfl))
    · exact va_AO.of (hts _ (am_bgi 14 rfl))
    · exact va_AO.of (hts _ (am_bgi 15 rfl))
  · dsimp only
    rw [if_pos (by omega), show 2000000 + j - 2000000 = j by omega]
    exact va_Zref (hts _ (hls j hj)) (hts _ (am_bgi 4 rfl)) (htt j hj).1 hA
  · by_cases h4 : j = 4
    · subst h4
      obtain ⟨scr, h1, h2, h3, h5, h6⟩ := hX
      exact ⟨scr, h1, h2, h3, by rw [h5]; exact Nat.le_refl _, by rw [h5]; rfl, h6, hA b hb⟩
    · dsimp only
      rw [if_pos (by omega), show 2000000 + j - 2000000 = j by omega]
      have h := (htt j (by omega)).2
      have e1 : am_xl L j = 8 := by
        unfold am_xl
        split
        · omega
        · rfl
      have e2 : (fun k => Value.int (am_xf xs j k)) = fun k => Value.int ((am_st j).getD k 0) := by
        funext k
        unfold am_xf
        split
        · omega
        · rfl
      rw [e1, e2]
      exact h
  · have e : (fun i => (fun q => if q < 2000004 then tt (q - 2000000) else if q = 2000004 then b else adK (q - 4000000)) (4000000 + i)) = adK := by
      funext i
      show (if 4000000 + i < 2000004 then _ else _) = _
      rw [if_neg (by omega), if_neg (by omega), Nat.add_sub_cancel_left]
    rw [e]
    exact hS
  · obtain ⟨h1, h2⟩ := am_lks q hq
    dsimp only
    rw [if_neg (by omega), if_neg (by omega), Nat.add_sub_cancel_left]
    exact vk_R.of (hts _ (lk_s_ok q hq)) (by rw [← h2]; exact hSt _ h1)
  · exact va_Zof (hts _ (am_bgi 5 rfl)) (hts _ (am_bgi 6 rfl)) (va_eqi (hs _ am_nr_z.1)) hA
  · exact va_Zqof (hts _ (am_bgi 7 rfl)) (hts _ (am_bgi 8 rfl)) (hs _ am_nr_z.2) hA
  · rfl
end BG
