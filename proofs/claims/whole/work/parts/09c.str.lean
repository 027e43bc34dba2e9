/-! ===== length() and charAt() of the texts ===== -/
def am_nst (c n d : String) : MethodName := ⟨c, n, d⟩
set_option maxRecDepth 100000 in
theorem am_stw : ∀ w ∈ [Cond.fieldLink "java/lang/String" 9 "java/lang/String" "value" "[B", Cond.fieldLink "java/lang/String" 15 "java/lang/String" "coder" "B", Cond.fieldLink "java/lang/String" 38 "java/lang/String" "COMPACT_STRINGS" "Z",
    Cond.methodLink "java/lang/String" 335 ⟨"java/lang/String", "coder", "()B"⟩, Cond.instanceMethod ⟨"java/lang/String", "coder", "()B"⟩, Cond.selects "java/lang/String" ⟨"java/lang/String", "coder", "()B"⟩ ⟨"java/lang/String", "coder", "()B"⟩, Cond.code ⟨"java/lang/String", "coder", "()B"⟩ prog_17_method_152_code 1 (some .byte),
    Cond.methodLink "java/lang/String" 492 ⟨"java/lang/String", "isLatin1", "()Z"⟩, Cond.instanceMethod ⟨"java/lang/String", "isLatin1", "()Z"⟩, Cond.selects "java/lang/String" ⟨"java/lang/String", "isLatin1", "()Z"⟩ ⟨"java/lang/String", "isLatin1", "()Z"⟩, Cond.code ⟨"java/lang/String", "isLatin1", "()Z"⟩ prog_17_method_154_code 1 (some .boolean),
    Cond.methodLink "java/lang/String" 495 ⟨"java/lang/StringLatin1", "charAt", "([BI)C"⟩, Cond.static ⟨"java/lang/StringLatin1", "charAt", "([BI)C"⟩, Cond.code ⟨"java/lang/StringLatin1", "charAt", "([BI)C"⟩ prog_18_method_2_code 2 (some .char),
    Cond.methodLink "java/lang/StringLatin1" 9 ⟨"java/lang/String", "checkIndex", "(II)V"⟩, Cond.static ⟨"java/lang/String", "checkIndex", "(II)V"⟩, Cond.code ⟨"java/lang/String", "checkIndex", "(II)V"⟩ prog_17_method_155_code 2 none,
    Cond.fieldLink "java/lang/String" 1053 "jdk/internal/util/Preconditions" "SIOOBE_FORMATTER" "Ljava/util/function/BiFunction;", Cond.methodLink "java/lang/String" 1059 ⟨"jdk/internal/util/Preconditions", "checkIndex", "(IILjava/util/function/BiFunction;)I"⟩, Cond.static ⟨"jdk/internal/util/Preconditions", "checkIndex", "(IILjava/util/function/BiFunction;)I"⟩, Cond.code ⟨"jdk/internal/util/Preconditions", "checkIndex", "(IILjava/util/function/BiFunction;)I"⟩ prog_21_method_11_code 3 (some .int),
    Cond.initialized "java/lang/String", Cond.initialized "java/lang/StringLatin1", Cond.initialized "jdk/internal/util/Preconditions"], w ∈ lw_tbl :=
  lk_sub [1820, 1821, 742, 738, 739, 740, 741, 748, 749, 750, 751, 752, 753, 754, 755, 756, 757, 758, 760, 761, 762, 112, 113, 114] rfl
theorem am_stg {w : Cond} {n : Nat} (h : lw_tbl.length = lw_tbl.length) (hw : w ∈ lw_tbl) (hg : goodWord w = true) : w ∈ lw_gw := lw_gw_in hw hg
theorem am_gV {own C : String} {idx : Nat} {y : MethodName} {bytes : ByteArray} {mx : Nat} {rt : Option FieldType} (h1 : Cond.methodLink own idx y ∈ lw_tbl) (h2 : Cond.instanceMethod y ∈ lw_tbl) (h3 : Cond.selects C y y ∈ lw_tbl) (h4 : Cond.initialized C ∈ lw_tbl) (h5 : Cond.code y bytes mx rt ∈ lw_tbl) : GoodIn lw_gw (wsV own idx C y (.code y bytes mx rt :: lw_gw)) := by
  intro w hw
  unfold wsV at hw
  simp only [List.cons_append, List.nil_append, List.mem_cons] at hw
  rcases hw with rfl | rfl | rfl | rfl | rfl | hw
  · exact ⟨lw_gw_in h1 rfl, Or.inl rfl⟩
  · exact ⟨lw_gw_in h2 rfl, Or.inl rfl⟩
  · exact ⟨lw_gw_in h3 rfl, Or.inl rfl⟩
  · exact ⟨lw_gw_in h4 rfl, Or.inl rfl⟩
  · exact ⟨lw_gw_in h5 rfl, Or.inl rfl⟩
  · exact ⟨hw, good_of_word (List.mem_filter.mp hw).2⟩
theorem am_gS {own : String} {idx : Nat} {y : MethodName} {bytes : ByteArray} {mx : Nat} {rt : Option FieldType} (h1 : Cond.methodLink own idx y ∈ lw_tbl) (h2 : Cond.static y ∈ lw_tbl) (h4 : Cond.initialized y.cls ∈ lw_tbl) (h5 : Cond.code y bytes mx rt ∈ lw_tbl) : GoodIn lw_gw (va_wsS own idx y (.code y bytes mx rt :: lw_gw)) := by
  intro w hw
  unfold va_wsS at hw
  simp only [List.cons_append, List.nil_append, List.mem_cons] at hw
  rcases hw with rfl | rfl | rfl | rfl | hw
  · exact ⟨lw_gw_in h1 rfl, Or.inl rfl⟩
  · exact ⟨lw_gw_in h2 rfl, Or.inl rfl⟩
  · exact ⟨lw_gw_in h4 rfl, Or.inl rfl⟩
  · exact ⟨lw_gw_in h5 rfl, Or.inl rfl⟩
  · exact ⟨hw, good_of_word (List.mem_filter.mp hw).2⟩
theorem am_stp_in (k : Nat) {w : Cond} (h : [Cond.fieldLink "java/lang/String" 9 "java/lang/String" "value" "[B", Cond.fieldLink "java/lang/String" 15 "java/lang/String" "coder" "B", Cond.fieldLink "java/lang/String" 38 "java/lang/String" "COMPACT_STRINGS" "Z",
    Cond.methodLink "java/lang/String" 335 ⟨"java/lang/String", "coder", "()B"⟩, Cond.instanceMethod ⟨"java/lang/String", "coder", "()B"⟩, Cond.selects "java/lang/String" ⟨"java/lang/String", "coder", "()B"⟩ ⟨"java/lang/String", "coder", "()B"⟩, Cond.code ⟨"java/lang/String", "coder", "()B"⟩ prog_17_method_152_code 1 (some .byte),
    Cond.methodLink "java/lang/String" 492 ⟨"java/lang/String", "isLatin1", "()Z"⟩, Cond.instanceMethod ⟨"java/lang/String", "isLatin1", "()Z"⟩, Cond.selects "java/lang/String" ⟨"java/lang/String", "isLatin1", "()Z"⟩ ⟨"java/lang/String", "isLatin1", "()Z"⟩, Cond.code ⟨"java/lang/String", "isLatin1", "()Z"⟩ prog_17_method_154_code 1 (some .boolean),
    Cond.methodLink "java/lang/String" 495 ⟨"java/lang/StringLatin1", "charAt", "([BI)C"⟩, Cond.static ⟨"java/lang/StringLatin1", "charAt", "([BI)C"⟩, Cond.code ⟨"java/lang/StringLatin1", "charAt", "([BI)C"⟩ prog_18_method_2_code 2 (some .char),
    Cond.methodLink "java/lang/StringLatin1" 9 ⟨"java/lang/String", "checkIndex", "(II)V"⟩, Cond.static ⟨"java/lang/String", "checkIndex", "(II)V"⟩, Cond.code ⟨"java/lang/String", "checkIndex", "(II)V"⟩ prog_17_method_155_code 2 none,
    Cond.fieldLink "java/lang/String" 1053 "jdk/internal/util/Preconditions" "SIOOBE_FORMATTER" "Ljava/util/function/BiFunction;", Cond.methodLink "java/lang/String" 1059 ⟨"jdk/internal/util/Preconditions", "checkIndex", "(IILjava/util/function/BiFunction;)I"⟩, Cond.static ⟨"jdk/internal/util/Preconditions", "checkIndex", "(IILjava/util/function/BiFunction;)I"⟩, Cond.code ⟨"jdk/internal/util/Preconditions", "checkIndex", "(IILjava/util/function/BiFunction;)I"⟩ prog_21_method_11_code 3 (some .int),
    Cond.initialized "java/lang/String", Cond.initialized "java/lang/StringLatin1", Cond.initialized "jdk/internal/util/Preconditions"][k]? = some w) : w ∈ lw_tbl := am_stw _ (List.mem_of_getElem? h)
section STR
variable {l : Launch} {A : Nat → Prop} {ad adV : Nat → Nat} {L : Nat} {xs : Nat → Int32} {i : Nat}
def am_rd (v : Option Value) : Array Value → State → Outcome → State → Prop := fun _ st oc t => oc = .returned v ∧ t.heap = st.heap
theorem am_rpre {p : Program} {e : Env} {ws : List Cond} {rm : Room} {y : MethodName} {cc : ByteArray} {mx : Nat} {ret : Option FieldType} {s : State} {m : MethodId} {args : Array Value} {below : List Frame} {meth : Method} {c : Code} {s₁ : State} (B : BodyLoose p l y (headSpec (Cond.code y cc mx ret :: ws) rm) cc mx ret e s m args below meth c s₁) : ∀ w ∈ ws, w.before args s = true := fun w hw => atoms_spec (ws := Cond.code y cc mx ret :: ws) B.pre w (List.mem_cons_of_mem _ hw)
/-- a call that only reads, and answers nothing -/
theorem am_callpv {p : Program} {e : Env} {R : Room} {s : State} {m : MethodId} {args : Array Value} {below : List Frame} {meth : Method} {c : Code} {H : Heap} {locs : List Loc} {cells slots : Nat} {Q : State → Prop} {pc : Nat} {ls : Array Slot} {H0 : Heap} {st0 rst : List Value} {a : Array Value} (hr : va_Run p l e R s m args below meth c H locs cells slots 0 0 (F0 m pc ls st0) rst (am_rd none a) A) (hS : va_S A H0 H locs)
    (kk : ∀ (locs1 : List Loc), va_S A H0 H locs1 → W p l e R s m args below meth c H locs1 cells slots Q (F0 m (pc + 3) ls rst)) : W p l e R s m args below meth c H locs cells slots Q (F0 m pc ls st0) := by
  intro T hT X
  obtain ⟨v1, st₀, t, T', L1, h0, X', hL, e1, e2, ⟨hv, hh⟩, st⟩ := hr T hT X
  cases hv
  obtain ⟨t2, a1, b1⟩ := kk (locs ++ L1) ⟨hS.1, hS.2.1, fun q hq => by
      rcases List.mem_append.mp hq with h | h
      · exact hS.2.2 q h
      · exact hL q h⟩ T' (by rw [e1, hh, h0]) X'
  exact ⟨t2, st t2 a1, b1⟩
set_option maxHeartbeats 4000000 in
set_option maxRecDepth 100000 in
theorem am_coder (hi : i < 12) : Met l ⟨"java/lang/String", "coder", "()B"⟩ (.code ⟨"java/lang/String", "coder", "()B"⟩ prog_17_method_152_code 1 (some .byte) :: lw_gw) { frames := 0, cells := 0, slots := 0, locals := 0 } (va_Pc [.ref (ad (4000000 + i))] (fun U => am_E A ad adV L xs U U.heap)) (am_rd (some (.int 0))) 0 0 A := by
  refine Met.ofW (cc := prog_17_method_152_code) (maxL := 1) (ret := some .byte) (by decide) rfl ?_
  intro p e s m args below meth c s₁ B hml hv
  obtain ⟨rfl, hE⟩ := hv
  have hx := B.exec
  have hb := B.bytes
  have hr := B.returns
  have hts := am_rpre B
  have hown : s.vm.findClass "java/lang/String" = some m.cls := findClass_of_methodNamed B.named
  have hlocks := B.notSynchronized
  have hS : va_S A s.heap s.heap [] := va_S.rf
  have hl := lv_entry ([.ref (ad (4000000 + i))]) (n := 1) (Nat.le_of_ble_eq_true rfl)
  rw [lg_entry_eq]
  generalize (lg_sl ([.ref (ad (4000000 + i))]) ++ List.replicate (1 - (lg_sl ([.ref (ad (4000000 + i))])).length) Slot.unset).toArray = ls at hl ⊢
  have hl : lv_has ls 1 [(0, .ref (ad (4000000 + i)))] := hl
  refine va_gets hx hb hE.2.2.2.2.1 hS hown (hts _ (lw_gw_in (am_stp_in 2 rfl) rfl)) (fun _ h9 => h9) (by decide +kernel) ?_
  refine lv_if_eq (off := 10) (tgt := 13) hx hb (by decide +kernel) rfl (fun h => absurd h (by decide)) (fun _ => ?_)
  refine lv_aload_n (k := 0) hx hb (by decide +kernel) rfl (lv_at hl 0 rfl) ?_
  refine vk_getf hx hb (hE.2.2.1.1 i hi).2.1 hS hown (hts _ (lw_gw_in (am_stp_in 1 rfl) rfl)) (fun _ h9 => h9) (by decide +kernel) ?_
  refine lv_goto (off := 4) (tgt := 14) hx hb (by decide +kernel) rfl ?_
  exact W.zret hx hb hr (by decide) (fun t ht hW => ⟨rfl, ht⟩) hS.2.2 (by decide +kernel)
set_option maxHeartbeats 4000000 in
set_option maxRecDepth 100000 in
theorem am_isLat (hi : i < 12) : Met l ⟨"java/lang/String", "isLatin1", "()Z"⟩ (.code ⟨"java/lang/String", "isLatin1", "()Z"⟩ prog_17_method_154_code 1 (some .boolean) :: lw_gw) { frames := 0, cells := 0, slots := 0, locals := 0 } (va_Pc [.ref (ad (4000000 + i))] (fun U => am_E A ad adV L xs U U.heap)) (am_rd (some (.int 1))) 0 0 A := by
  refine Met.ofW (cc := prog_17_method_154_code) (maxL := 1) (ret := some .boolean) (by decide) rfl ?_
  intro p e s m args below meth c s₁ B hml hv
  obtain ⟨rfl, hE⟩ := hv
  have hx := B.exec
  have hb := B.bytes
  have hr := B.returns
  have hts := am_rpre B
  have hown : s.vm.findClass "java/lang/String" = some m.cls := findClass_of_methodNamed B.named
  have hlocks := B.notSynchronized
  have hS : va_S A s.heap s.heap [] := va_S.rf
  have hl := lv_entry ([.ref (ad (4000000 + i))]) (n := 1) (Nat.le_of_ble_eq_true rfl)
  rw [lg_entry_eq]
  generalize (lg_sl ([.ref (ad (4000000 + i))]) ++ List.replicate (1 - (lg_sl ([.ref (ad (4000000 + i))])).length) Slot.unset).toArray = ls at hl ⊢
  have hl : lv_has ls 1 [(0, .ref (ad (4000000 + i)))] := hl
  refine va_gets hx hb hE.2.2.2.2.1 hS hown (hts _ (lw_gw_in (am_stp_in 2 rfl) rfl)) (fun _ h9 => h9) (by decide +kernel) ?_
  refine lv_if_eq (off := 14) (tgt := 17) hx hb (by decide +kernel) rfl (fun h => absurd h (by decide)) (fun _ => ?_)
  refine lv_aload_n (k := 0) hx hb (by decide +kernel) rfl (lv_at hl 0 rfl) ?_
  refine vk_getf hx hb (hE.2.2.1.1 i hi).2.1 hS hown (hts _ (lw_gw_in (am_stp_in 1 rfl) rfl)) (fun _ h9 => h9) (by decide +kernel) ?_
  refine lv_if_ne (off := 7) (tgt := 17) hx hb (by decide +kernel) rfl (fun h => absurd rfl h) (fun _ => ?_)
  refine lv_iconst (n := 1) (v := 1) hx hb (by decide +kernel) (by decide) ?_
  refine lv_goto (off := 4) (tgt := 18) hx hb (by decide +kernel) rfl ?_
  exact W.zret hx hb hr (by decide) (fun t ht hW => ⟨rfl, ht⟩) hS.2.2 (by decide +kernel)
set_option maxHeartbeats 4000000 in
set_option maxRecDepth 100000 in
/-- length() -/
theorem am_lengthM (hi : i < 12) : Met l ⟨"java/lang/String", "length", "()I"⟩ am_wsl { frames := 2, cells := 0, slots := 0, locals := 64 } (va_Pc [.ref (ad (4000000 + i))] (fun U => am_E A ad adV L xs U U.heap)) (am_rd (some (.int (nI (am_sl.getD i 0))))) 0 0 A := by
  refine Met.ofW (cc := prog_17_method_54_code) (maxL := 1) (ret := some .int) (by decide) rfl ?_
  intro p e s m args below meth c s₁ B hml hv
  obtain ⟨rfl, hE⟩ := hv
  have hx := B.exec
  have hb := B.bytes
  have hr := B.returns
  have hts := am_rpre B
  have hown : s.vm.findClass "java/lang/String" = some m.cls := findClass_of_methodNamed B.named
  have hlocks := B.notSynchronized
  have hS : va_S A s.heap s.heap [] := va_S.rf
  have hl := lv_entry ([.ref (ad (4000000 + i))]) (n := 1) (Nat.le_of_ble_eq_true rfl)
  rw [lg_entry_eq]
  generalize (lg_sl ([.ref (ad (4000000 + i))]) ++ List.replicate (1 - (lg_sl ([.ref (ad (4000000 + i))])).length) Slot.unset).toArray = ls at hl ⊢
  have hl : lv_has ls 1 [(0, .ref (ad (4000000 + i)))] := hl
  refine lv_aload_n (k := 0) hx hb (by decide +kernel) rfl (lv_at hl 0 rfl) ?_
  refine vk_getf hx hb (hE.2.2.1.1 i hi).2.2.1 hS hown (hts _ (lw_gw_in (am_stp_in 0 rfl) rfl)) (fun _ h9 => h9) (by decide +kernel) ?_
  refine va_tlen hx hb (hE.2.2.1.1 i hi).2.2.2 hS (v := nI (am_sl.getD i 0)) rfl (by decide +kernel) ?_
  refine lv_aload_n (k := 0) hx hb (by decide +kernel) rfl (lv_at hl 0 rfl) ?_
  refine am_callp (a := #[]) (va_runV (As := []) (rest := [.int (nI (am_sl.getD i 0))]) (C := "java/lang/String") ⟨hx, hb, hml, hown, hts⟩ (am_coder (A := A) (ad := ad) (adV := adV) (L := L) (xs := xs) hi) (cwV 0 hts (am_gV (am_stp_in 3 rfl) (am_stp_in 4 rfl) (am_stp_in 5 rfl) (am_stp_in 21 rfl) (am_stp_in 6 rfl)) rfl rfl rfl ⟨rfl, by decide, by decide, by decide +kernel⟩ ⟨by show 0 + 1 ≤ 2; omega, by show 8 + (1 + 11) + 0 ≤ 64; omega⟩) ⟨am_Eb, vk_recv hE.2.2.1 hi hS, fun U hU hW => ⟨rfl, by show am_E A ad adV L xs U U.heap; rw [hU]; exact hE.warm hW⟩⟩ rfl rfl hl.1 rfl (lv_room (by show 1 + 0 ≤ 8; omega)) (show decode prog_17_method_54_code 6 = .ok (.invokevirtual 335, 3) by decide +kernel) ⟨Nat.zero_le _, Nat.zero_le _⟩) hS (fun locs1 hS1 => ?_)
  refine lv_ishr hx hb (by decide +kernel) ?_
  refine W.eq (g2 := F0 m 10 ls [.int (nI (am_sl.getD i 0))]) ?_ ?_
  · have h : nI (am_sl.getD i 0) >>> ((0 : Int32) &&& 31) = nI (am_sl.getD i 0) := by
      have e0 : (0 : Int32) &&& 31 = 0 := by decide
      rw [e0]
      generalize nI (am_sl.getD i 0) = z
      apply Int32.toBitVec_inj.mp
      simp
    rw [h]
  exact W.iret hx hb hr (fun t ht hW => ⟨rfl, ht⟩) hS1.2.2 (by decide +kernel)
theorem am_nIlt {k n : Nat} (hk : k < n) (hn : n < 2 ^ 31) : nI k < nI n ∧ ¬ nI k < 0 := by
  constructor
  · rw [Int32.lt_iff_toInt_lt, nI_toInt (by omega), nI_toInt hn]; omega
  · rw [Int32.lt_iff_toInt_lt, nI_toInt (by omega), Int32.toInt_zero]; omega
set_option maxHeartbeats 4000000 in
set_option maxRecDepth 100000 in
theorem am_pchk (v3 : Value) (hv3 : v3 = .null ∨ ∃ t, v3 = .ref t) {k n : Nat} (hk : k < n) (hn : n < 2 ^ 31) : Met l ⟨"jdk/internal/util/Preconditions", "checkIndex", "(IILjava/util/function/BiFunction;)I"⟩ (.code ⟨"jdk/internal/util/Preconditions", "checkIndex", "(IILjava/util/function/BiFunction;)I"⟩ prog_21_method_11_code 3 (some .int) :: lw_gw) { frames := 0, cells := 0, slots := 0, locals := 0 } (va_Pc [.int (nI k), .int (nI n), v3] (fun U => am_E A ad adV L xs U U.heap)) (am_rd (some (.int (nI k)))) 0 0 A := by
  refine Met.ofW (cc := prog_21_method_11_code) (maxL := 3) (ret := some .int) (by decide) rfl ?_
  intro p e s m args below meth c s₁ B hml hv
  obtain ⟨rfl, hE⟩ := hv
  have hx := B.exec
  have hb := B.bytes
  have hr := B.returns
  have hlocks := B.notSynchronized
  have hS : va_S A s.heap s.heap [] := va_S.rf
  have hsl : (lg_sl [.int (nI k), .int (nI n), v3]).length ≤ 3 := by rcases hv3 with rfl | ⟨t, rfl⟩ <;> exact Nat.le_refl _
  have hl := lv_entry ([.int (nI k), .int (nI n), v3]) (n := 3) hsl
  rw [lg_entry_eq]
  generalize (lg_sl ([.int (nI k), .int (nI n), v3]) ++ List.replicate (3 - (lg_sl ([.int (nI k), .int (nI n), v3])).length) Slot.unset).toArray = ls at hl ⊢
  have h0 : ls[0]? = some (.val (.int (nI k))) := lv_at hl 0 rfl
  have h1 : ls[1]? = some (.val (.int (nI n))) := lv_at hl 1 rfl
  have hlt := am_nIlt hk hn
  refine lv_iload_n (k := 0) hx hb (by decide +kernel) rfl h0 ?_
  refine lv_if_lt (off := 8) (tgt := 9) hx hb (by decide +kernel) rfl (fun h => absurd h hlt.2) (fun _ => ?_)
  refine lv_iload_n (k := 0) hx hb (by decide +kernel) rfl h0 ?_
  refine lv_iload_n (k := 1) hx hb (by decide +kernel) rfl h1 ?_
  refine lv_icmp_lt (off := 10) (tgt := 16) hx hb (by decide +kernel) rfl (fun _ => ?_) (fun h => absurd hlt.1 h)
  refine lv_iload_n (k := 0) hx hb (by decide +kernel) rfl h0 ?_
  exact W.iret hx hb hr (fun t ht hW => ⟨rfl, ht⟩) hS.2.2 (by decide +kernel)
set_option maxHeartbeats 4000000 in
set_option maxRecDepth 100000 in
theorem am_schk {k n : Nat} (hk : k < n) (hn : n < 2 ^ 31) : Met l ⟨"java/lang/String", "checkIndex", "(II)V"⟩ (.code ⟨"java/lang/String", "checkIndex", "(II)V"⟩ prog_17_method_155_code 2 none :: lw_gw) { frames := 1, cells := 0, slots := 0, locals := 32 } (va_Pc [.int (nI k), .int (nI n)] (fun U => am_E A ad adV L xs U U.heap)) (am_rd none) 0 0 A := by
  refine Met.ofW (cc := prog_17_method_155_code) (maxL := 2) (ret := none) (by decide) rfl ?_
  intro p e s m args below meth c s₁ B hml hv
  obtain ⟨rfl, hE⟩ := hv
  have hx := B.exec
  have hb := B.bytes
  have hr := B.returns
  have hts := am_rpre B
  have hown : s.vm.findClass "java/lang/String" = some m.cls := findClass_of_methodNamed B.named
  have hlocks := B.notSynchronized
  have hS : va_S A s.heap s.heap [] := va_S.rf
  have hl := lv_entry ([.int (nI k), .int (nI n)]) (n := 2) (Nat.le_of_ble_eq_true rfl)
  rw [lg_entry_eq]
  generalize (lg_sl ([.int (nI k), .int (nI n)]) ++ List.replicate (2 - (lg_sl ([.int (nI k), .int (nI n)])).length) Slot.unset).toArray = ls at hl ⊢
  have hl : lv_has ls 2 [(0, .int (nI k)), (1, .int (nI n))] := hl
  refine lv_iload_n (k := 0) hx hb (by decide +kernel) rfl (lv_at hl 0 rfl) ?_
  refine lv_iload_n (k := 1) hx hb (by decide +kernel) rfl (lv_at hl 1 rfl) ?_
  obtain ⟨v3, hv3, hZ⟩ : ∃ v3 : Value, (v3 = .null ∨ ∃ t, v3 = .ref t) ∧ va_Z "jdk/internal/util/Preconditions" "SIOOBE_FORMATTER" "Ljava/util/function/BiFunction;" v3 A s s.heap := by
    rcases hE.2.2.2.2.2 with h | ⟨t, h⟩
    · exact ⟨_, Or.inl rfl, h⟩
    · exact ⟨_, Or.inr ⟨t, rfl⟩, h⟩
  refine va_gets hx hb hZ hS hown (hts _ (lw_gw_in (am_stp_in 17 rfl) rfl)) (fun _ h9 => h9) (by decide +kernel) ?_
  refine am_callp (a := #[]) (va_runS (As := [.int (nI k), .int (nI n), v3]) (rest := []) ⟨hx, hb, hml, hown, hts⟩ (am_pchk (A := A) (ad := ad) (adV := adV) (L := L) (xs := xs) v3 hv3 hk hn) (va_cwS 3 hts (am_gS (am_stp_in 18 rfl) (am_stp_in 19 rfl) (am_stp_in 23 rfl) (am_stp_in 20 rfl)) rfl rfl rfl ⟨by decide, by decide, by decide +kernel⟩ ⟨by show 0 + 1 ≤ 1; omega, by show 8 + (3 + 11) + 0 ≤ 32; omega⟩) ⟨am_Eb, fun U hU hW => ⟨rfl, by show am_E A ad adV L xs U U.heap; rw [hU]; exact hE.warm hW⟩⟩ rfl rfl hl.1 rfl (lv_room (by show 0 ≤ 8; omega)) (show decode prog_17_method_155_code 5 = .ok (.invokestatic 1059, 3) by decide +kernel) ⟨Nat.zero_le _, Nat.zero_le _⟩) hS (fun locs1 hS1 => ?_)
  refine lv_pop hx hb (by decide +kernel) rfl ?_
  exact W.vret hx hb hr (fun t ht hW => ⟨rfl, ht⟩) hS1.2.2 (by decide +kernel)
theorem am_btk : ∀ i, i < 12 → am_sl.getD i 0 = (am_bt.getD i []).length ∧ ∀ b ∈ am_bt.getD i [], ((b &&& 255).toUInt32 % 65536).toInt32 = b := by decide +kernel
theorem am_btb {i k : Nat} (hi : i < 12) (hk : k < am_sl.getD i 0) : (((am_bt.getD i []).getD k 0 &&& 255).toUInt32 % 65536).toInt32 = (am_bt.getD i []).getD k 0 := by
  obtain ⟨h1, h2⟩ := am_btk i hi
  rw [h1] at hk
  rw [List.getD_eq_getElem?_getD, List.getElem?_eq_getElem hk]
  exact h2 _ (List.getElem_mem hk)
theorem am_btn {i k : Nat} (hi : i < 12) (hk : k < am_sl.getD i 0) : narrow .char (.int ((am_bt.getD i []).getD k 0)) = .int ((am_bt.getD i []).getD k 0) := by
  have h3 : ∀ i, i < 12 → ∀ b ∈ am_bt.getD i [], narrow .char (.int b) = .int b := by decide +kernel
  obtain ⟨h1, h2⟩ := am_btk i hi
  rw [h1] at hk
  rw [List.getD_eq_getElem?_getD, List.getElem?_eq_getElem hk]
  exact h3 i hi _ (List.getElem_mem hk)
set_option maxHeartbeats 4000000 in
set_option maxRecDepth 100000 in
theorem am_lchar (hi : i < 12) {k : Nat} (hk : k < am_sl.getD i 0) : Met l ⟨"java/lang/StringLatin1", "charAt", "([BI)C"⟩ (.code ⟨"java/lang/StringLatin1", "charAt", "([BI)C"⟩ prog_18_method_2_code 2 (some .char) :: lw_gw) { frames := 2, cells := 0, slots := 0, locals := 64 } (va_Pc [.ref (adV i), .int (nI k)] (fun U => am_E A ad adV L xs U U.heap)) (am_rd (some (.int ((am_bt.getD i []).getD k 0)))) 0 0 A := by
  refine Met.ofW (cc := prog_18_method_2_code) (maxL := 2) (ret := some .char) (by decide) rfl ?_
  intro p e s m args below meth c s₁ B hml hv
  obtain ⟨rfl, hE⟩ := hv
  have hx := B.exec
  have hb := B.bytes
  have hr := B.returns
  have hts := am_rpre B
  have hown : s.vm.findClass "java/lang/StringLatin1" = some m.cls := findClass_of_methodNamed B.named
  have hlocks := B.notSynchronized
  have hS : va_S A s.heap s.heap [] := va_S.rf
  have hl := lv_entry ([.ref (adV i), .int (nI k)]) (n := 2) (Nat.le_of_ble_eq_true rfl)
  rw [lg_entry_eq]
  generalize (lg_sl ([.ref (adV i), .int (nI k)]) ++ List.replicate (2 - (lg_sl ([.ref (adV i), .int (nI k)])).length) Slot.unset).toArray = ls at hl ⊢
  have hl : lv_has ls 2 [(0, .ref (adV i)), (1, .int (nI k))] := hl
  have hn := am_sl_lt i
  have hT := (hE.2.2.1.1 i hi).2.2.2
  refine lv_iload_n (k := 1) hx hb (by decide +kernel) rfl (lv_at hl 1 rfl) ?_
  refine lv_aload_n (k := 0) hx hb (by decide +kernel) rfl (lv_at hl 0 rfl) ?_
  refine va_tlen hx hb hT hS (v := nI (am_sl.getD i 0)) rfl (by decide +kernel) ?_
  refine am_callpv (va_runS (As := [.int (nI k), .int (nI (am_sl.getD i 0))]) (rest := []) ⟨hx, hb, hml, hown, hts⟩ (am_schk (A := A) (ad := ad) (adV := adV) (L := L) (xs := xs) hk hn) (va_cwS 2 hts (am_gS (am_stp_in 14 rfl) (am_stp_in 15 rfl) (am_stp_in 21 rfl) (am_stp_in 16 rfl)) rfl rfl rfl ⟨by decide, by decide, by decide +kernel⟩ ⟨by show 1 + 1 ≤ 2; omega, by show 8 + (2 + 11) + 32 ≤ 64; omega⟩) ⟨am_Eb, fun U hU hW => ⟨rfl, by show am_E A ad adV L xs U U.heap; rw [hU]; exact hE.warm hW⟩⟩ rfl rfl hl.1 rfl (lv_room (by show 0 ≤ 8; omega)) (show decode prog_18_method_2_code 3 = .ok (.invokestatic 9, 3) by decide +kernel) ⟨Nat.zero_le _, Nat.zero_le _⟩) hS (fun locs1 hS1 => ?_)
  refine lv_aload_n (k := 0) hx hb (by decide +kernel) rfl (lv_at hl 0 rfl) ?_
  refine lv_iload_n (k := 1) hx hb (by decide +kernel) rfl (lv_at hl 1 rfl) ?_
  have hkk : (nI k).toNatClampNeg = k := by
    show (nI k).toInt.toNat = k
    rw [nI_toInt (by omega)]
    rfl
  have hin : vp_in (nI k) (am_sl.getD i 0) := by
    intro q
    rcases q with q | q
    · exact (am_nIlt hk hn).2 q
    · omega
  refine va_tb hx hb hT hS1 hin (v := .int ((am_bt.getD i []).getD k 0)) (by rw [hkk]) (by decide +kernel) ?_
  refine lv_sipush (n := 255) (v := 255) hx hb (by decide +kernel) (by decide) ?_
  refine lv_iand hx hb (by decide +kernel) ?_
  refine lv_i2c hx hb (by decide +kernel) (am_btb hi hk) ?_
  exact W.zret hx hb hr (am_btn hi hk) (fun t ht hW => ⟨rfl, ht⟩) hS1.2.2 (by decide +kernel)
set_option maxHeartbeats 4000000 in
set_option maxRecDepth 100000 in
theorem am_charM (hi : i < 12) {k : Nat} (hk : k < am_sl.getD i 0) : Met l ⟨"java/lang/String", "charAt", "(I)C"⟩ am_wsc { frames := 6, cells := 0, slots := 0, locals := 256 } (va_Pc [.ref (ad (4000000 + i)), .int (nI k)] (fun U => am_E A ad adV L xs U U.heap)) (am_rd (some (.int ((am_bt.getD i []).getD k 0)))) 0 0 A := by
  refine Met.ofW (cc := prog_17_method_56_code) (maxL := 2) (ret := some .char) (by decide) rfl ?_
  intro p e s m args below meth c s₁ B hml hv
  obtain ⟨rfl, hE⟩ := hv
  have hx := B.exec
  have hb := B.bytes
  have hr := B.returns
  have hts := am_rpre B
  have hown : s.vm.findClass "java/lang/String" = some m.cls := findClass_of_methodNamed B.named
  have hlocks := B.notSynchronized
  have hS : va_S A s.heap s.heap [] := va_S.rf
  have hl := lv_entry ([.ref (ad (4000000 + i)), .int (nI k)]) (n := 2) (Nat.le_of_ble_eq_true rfl)
  rw [lg_entry_eq]
  generalize (lg_sl ([.ref (ad (4000000 + i)), .int (nI k)]) ++ List.replicate (2 - (lg_sl ([.ref (ad (4000000 + i)), .int (nI k)])).length) Slot.unset).toArray = ls at hl ⊢
  have hl : lv_has ls 2 [(0, .ref (ad (4000000 + i))), (1, .int (nI k))] := hl
  refine lv_aload_n (k := 0) hx hb (by decide +kernel) rfl (lv_at hl 0 rfl) ?_
  refine am_callp (a := #[]) (va_runV (As := []) (rest := []) (C := "java/lang/String") ⟨hx, hb, hml, hown, hts⟩ (am_isLat (A := A) (ad := ad) (adV := adV) (L := L) (xs := xs) hi) (cwV 0 hts (am_gV (am_stp_in 7 rfl) (am_stp_in 8 rfl) (am_stp_in 9 rfl) (am_stp_in 21 rfl) (am_stp_in 10 rfl)) rfl rfl rfl ⟨rfl, by decide, by decide, by decide +kernel⟩ ⟨by show 0 + 1 ≤ 6; omega, by show 8 + (1 + 11) + 0 ≤ 256; omega⟩) ⟨am_Eb, vk_recv hE.2.2.1 hi hS, fun U hU hW => ⟨rfl, by show am_E A ad adV L xs U U.heap; rw [hU]; exact hE.warm hW⟩⟩ rfl rfl hl.1 rfl (lv_room (by show 0 ≤ 8; omega)) (show decode prog_17_method_56_code 1 = .ok (.invokevirtual 492, 3) by decide +kernel) ⟨Nat.zero_le _, Nat.zero_le _⟩) hS (fun locs1 hS1 => ?_)
  refine lv_if_eq (off := 12) (tgt := 16) hx hb (by decide +kernel) rfl (fun h => absurd h (by decide)) (fun _ => ?_)
  refine lv_aload_n (k := 0) hx hb (by decide +kernel) rfl (lv_at hl 0 rfl) ?_
  refine vk_getf hx hb (hE.2.2.1.1 i hi).2.2.1 hS1 hown (hts _ (lw_gw_in (am_stp_in 0 rfl) rfl)) (fun _ h9 => h9) (by decide +kernel) ?_
  refine lv_iload_n (k := 1) hx hb (by decide +kernel) rfl (lv_at hl 1 rfl) ?_
  refine am_callp (a := #[]) (va_runS (As := [.ref (adV i), .int (nI k)]) (rest := []) ⟨hx, hb, hml, hown, hts⟩ (am_lchar (A := A) (ad := ad) (adV := adV) (L := L) (xs := xs) hi hk) (va_cwS 2 hts (am_gS (am_stp_in 11 rfl) (am_stp_in 12 rfl) (am_stp_in 22 rfl) (am_stp_in 13 rfl)) rfl rfl rfl ⟨by decide, by decide, by decide +kernel⟩ ⟨by show 2 + 1 ≤ 6; omega, by show 8 + (2 + 11) + 64 ≤ 256; omega⟩) ⟨am_Eb, fun U hU hW => ⟨rfl, by show am_E A ad adV L xs U U.heap; rw [hU]; exact hE.warm hW⟩⟩ rfl rfl hl.1 rfl (lv_room (by show 0 ≤ 8; omega)) (show decode prog_17_method_56_code 12 = .ok (.invokestatic 495, 3) by decide +kernel) ⟨Nat.zero_le _, Nat.zero_le _⟩) hS1 (fun locs2 hS2 => ?_)
  exact W.zret hx hb hr (am_btn hi hk) (fun t ht hW => ⟨rfl, ht⟩) hS2.2.2 (by decide +kernel)
theorem am_str (l : Launch) : am_Str l := fun _ _ _ _ _ _ hi => ⟨am_lengthM hi, fun _ hk => am_charM hi hk⟩
end STR
