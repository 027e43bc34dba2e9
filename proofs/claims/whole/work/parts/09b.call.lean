/-! ===== calls ===== -/
def am_Cx (p : Program) (s : State) (m : MethodId) (args : Array Value) (meth : Method) (c : Code) (A : Nat → Prop) (D : va_G) (dA : Nat → ClassId) (y : Nat) : Prop :=
  p.tables.exec = Jvm.exec ∧ c.code = pg_by y ∧ c.maxLocals = pg_mx y ∧ s.vm.findClass (am_on (pg_ow y)) = some m.cls ∧ (∀ w ∈ lw_gw, w.before args s = true) ∧ va_K D vwCl (am_tys dA) s ∧ am_NW s ∧ (∀ q, s.heap.size ≤ q → A q) ∧ ((pg_nm y).name = "<init>" → meth.name = "<init>")
def am_Pt (s : State) (A : Nat → Prop) (D : va_G) (dA : Nat → ClassId) (adV : Nat → Nat) (L : Nat) (xs : Nat → Int32) (y : Nat) (ad : Nat → Nat) (S : am_S) (H : Heap) (locs : List Loc) (ls : Array Slot) (lo : List Value) : Prop :=
  va_P D vwCl (am_wd dA ad S) H ∧ va_D A (am_wd dA ad S) ∧ va_S A s.heap H locs ∧ am_Iv L xs S ∧ am_E A ad adV L xs s s.heap ∧ am_has ad ls (pg_mx y) lo
theorem pg_cls : ∀ z ∈ pg_ys.flatten, (pg_nm z).cls = am_on (pg_ow z) ∧ (pg_nm z).cls ≠ "java/lang/invoke/MethodHandle" ∧ (pg_nm z).cls ≠ "java/lang/invoke/VarHandle" := by decide +kernel
theorem pg_w_code {z : Nat} (h : z ∈ pg_ys.flatten) : Cond.initialized (pg_nm z).cls ∈ lw_tbl := pg_w_ok z h _ (List.mem_cons_of_mem _ List.mem_cons_self)
theorem pg_w_st {z : Nat} (h : z ∈ pg_ys.flatten) (hs : pg_is z = true) : Cond.static (pg_nm z) ∈ lw_tbl := by
  refine pg_w_ok z h _ ?_
  unfold pg_w
  rw [hs]
  simp
theorem pg_w_in {z : Nat} (h : z ∈ pg_ys.flatten) (hs : pg_is z = false) : Cond.instanceMethod (pg_nm z) ∈ lw_tbl := by
  refine pg_w_ok z h _ ?_
  unfold pg_w
  rw [hs]
  by_cases hn : (pg_nm z).name = "<init>" <;> simp [hn]
theorem pg_w_se {z : Nat} (h : z ∈ pg_ys.flatten) (hs : pg_is z = false) (hn : (pg_nm z).name ≠ "<init>") : Cond.selects (pg_nm z).cls (pg_nm z) (pg_nm z) ∈ lw_tbl := by
  refine pg_w_ok z h _ ?_
  unfold pg_w
  rw [hs]
  simp [hn]
/-- what the check of a call says -/
theorem am_cok_spec {z : Nat} {k : Bool} (h : am_cok z k = true) : z ∈ pg_ys.flatten ∧ pg_is z = k ∧ pg_mx z ≤ 40 ∧ (∃ n, (parseMethodDescriptor (pg_nm z).desc).map (fun d => d.parameters.length) = some n ∧ (pg_sg z).1 = (if k then n else n + 1)) := by
  unfold am_cok at h
  simp only [Bool.and_eq_true, decide_eq_true_eq, beq_iff_eq] at h
  obtain ⟨⟨⟨⟨h1, h2⟩, h3⟩, h4⟩, -⟩ := h
  refine ⟨by simpa using h1, h2, h3, ?_⟩
  unfold am_ar at h4
  cases hn : (parseMethodDescriptor (pg_nm z).desc).map (fun d => d.parameters.length) with
  | none => rw [hn] at h4; cases h4
  | some n =>
    rw [hn] at h4
    exact ⟨n, rfl, by simpa using h4⟩
theorem am_room1 {d R : Nat} (h : d + 9 ≤ R) : d + 8 + 1 ≤ R := h
set_option maxRecDepth 10000 in
theorem am_room2 {a d R : Nat} (h : a ≤ 40) (h2 : 64 * (d + 9) ≤ R) : 8 + (a + 11) + 64 * (d + 8) ≤ R := by omega
section CL
variable {p : Program} {l : Launch} {e : Env} {R : Room} {s : State} {m : MethodId} {args : Array Value} {below : List Frame} {meth : Method} {c : Code} {Q : State → Prop}
variable {A : Nat → Prop} {D : va_G} {dA : Nat → ClassId} {adV : Nat → Nat} {L : Nat} {xs : Nat → Int32}
variable {ad : Nat → Nat} {S S' : am_S} {H : Heap} {locs : List Loc} {ls : Array Slot} {cells slots pc idx d y z : Nat} {v : Option Value} {As rest : List Value} {b : Nat}
theorem am_pre (hK : va_K D vwCl (am_tys dA) s) (hNW : am_NW s) (hA : ∀ q, s.heap.size ≤ q → A q) (hP : va_P D vwCl (am_wd dA ad S) H) (hD : va_D A (am_wd dA ad S)) (hS : va_S A s.heap H locs) (hIv : am_Iv L xs S) (hE : am_E A ad adV L xs s s.heap) {U : State} (hU : U.heap = H) (hW : s.WarmedH U.vm) : am_B A D dA ad adV L xs S U :=
  ⟨va_K.moved hW.alike hK, hNW.warm hW, by rw [hU]; exact (hE.kept hS.2.1).warm hW, by rw [hU]; exact hP, hD, hIv, fun q hq => hA q (Nat.le_trans hS.1 (by rw [← hU]; exact hq))⟩
set_option maxHeartbeats 4000000 in
set_option maxRecDepth 10000 in
theorem am_cl0 (hC : am_Cx p s m args meth c A D dA y) (hM : am_M l d z (.ref b :: As) S v S') (hL31 : L < 2 ^ 31) (hm : (pg_ow y, idx, z) ∈ lk_m) (hck : am_cok z false = true) (hni : (pg_nm z).name ≠ "<init>") (how : pg_ow z < 13) (hb1 : am_c S b = pg_ow z) (hn : As.length + 1 = (pg_sg z).1)
    (hP : va_P D vwCl (am_wd dA ad S) H) (hD : va_D A (am_wd dA ad S)) (hS : va_S A s.heap H locs) (hIv : am_Iv L xs S) (hE : am_E A ad adV L xs s s.heap) (hls : ls.size = pg_mx y) (hcat : am_cat rest ≤ 8) (hdg : decode (pg_by y) pc = .ok (.invokevirtual idx, 3)) (hR1 : d + 9 ≤ R.frames) (hR2 : 64 * (d + 9) ≤ R.locals)
    (hfc : cells + (am_n S' - am_n S) ≤ R.cells ∧ slots + (am_w S' - am_w S) ≤ R.slots)
    (kk : ∀ (ad' : Nat → Nat) (H1 : Heap) (locs1 : List Loc), am_ag (am_n S) ad ad' → va_P D vwCl (am_wd dA ad' S') H1 → va_D A (am_wd dA ad' S') → va_S A s.heap H1 locs1 → am_Iv L xs S' → (∀ x, v = some (.ref x) → 2000000 ≤ x) → W p l e R s m args below meth c H1 locs1 (cells + (am_n S' - am_n S)) (slots + (am_w S' - am_w S)) Q (F0 m (pc + 3) ls ((v.map (am_tr ad')).toList ++ rest.map (am_tr ad)))) :
    W p l e R s m args below meth c H locs cells slots Q (F0 m pc ls ((As.map (am_tr ad)).reverse ++ .ref (ad b) :: rest.map (am_tr ad))) := by
  obtain ⟨hx, hb, hml, hown, hts, hK, hNW, hA, hnm⟩ := hC
  have hmx := (am_cok_spec hck).2.2.1
  have hroom : ({ frames := d + 8, cells := am_n S' - am_n S, slots := am_w S' - am_w S, locals := 64 * (d + 8) } : Room).frames + 1 ≤ R.frames ∧ 8 + (pg_mx z + 11) + ({ frames := d + 8, cells := am_n S' - am_n S, slots := am_w S' - am_w S, locals := 64 * (d + 8) } : Room).locals ≤ R.locals := ⟨am_room1 hR1, am_room2 hmx hR2⟩
  obtain ⟨hz, his, -, n, hpn, hsg⟩ := am_cok_spec hck
  obtain ⟨hcls, hmh⟩ := pg_cls z hz
  have hsg : (pg_sg z).1 = n + 1 := hsg
  have hT : GoodIn lw_gw (wsV (am_on (pg_ow y)) idx (pg_nm z).cls (pg_nm z) (pg_ws z)) := by
    intro w hw
    unfold wsV at hw
    simp only [List.cons_append, List.nil_append, List.mem_cons] at hw
    rcases hw with rfl | rfl | rfl | rfl | hw
    · exact ⟨lw_gw_in (lk_m_ok _ hm) rfl, Or.inl rfl⟩
    · exact ⟨lw_gw_in (pg_w_in hz his) rfl, Or.inl rfl⟩
    · exact ⟨lw_gw_in (pg_w_se hz his hni) rfl, Or.inl rfl⟩
    · exact ⟨lw_gw_in (pg_w_code hz) rfl, Or.inl rfl⟩
    · exact pg_ws_in hz w hw
  have hws := am_wd_at (dA := dA) (ad := ad) (hIv.1 b (by clear hz; omega)).1
  rw [am_ce_o hb1 (by clear hz; omega)] at hws
  have hrecv := va_recv hK hP (am_cl _ how) hws
  rw [show ((am_on (pg_ow z), am_T (pg_ow z), am_N (pg_ow z)) : vw_C).1 = (pg_nm z).cls from hcls.symm] at hrecv
  have hM1 := hM A D dA ad adV L xs hL31
  have cw : CallW R s args (am_on (pg_ow y)) (pg_nm z).cls idx (pg_nm z) (pg_by z) (pg_mx z) (pg_rt z) (pg_ws z) { frames := d + 8, cells := am_n S' - am_n S, slots := am_w S' - am_w S, locals := 64 * (d + 8) } (am_n S' - am_n S) (am_w S' - am_w S) n := cwV n hts hT (ws' := lw_gw) rfl rfl rfl ⟨rfl, hmh.1, hmh.2, hpn⟩ hroom
  have hp : PreV s H (pg_nm z).cls (ad b) (va_Pc ((.ref b :: As).map (am_tr ad)) (am_B A D dA ad adV L xs S)) (As.map (am_tr ad)) := ⟨am_B.blind, hrecv, fun U hU hW => ⟨rfl, am_pre hK hNW hA hP hD hS hIv hE hU hW⟩⟩
  have hr := va_runV (p := p) (e := e) (below := below) (locs := locs) (cells := cells) (slots := slots) (meth := meth) (As := As.map (am_tr ad)) (rest := rest.map (am_tr ad)) (g := F0 m pc ls ((As.map (am_tr ad)).reverse ++ .ref (ad b) :: rest.map (am_tr ad))) ⟨hx, hb, hml, hown, hts⟩ hM1 cw hp rfl (by rw [List.length_map]; clear hz; omega) hls rfl (lv_room (by rw [am_cat_tr]; exact hcat)) hdg hfc
  refine am_callk hr hS (fun ad' t H1 locs1 ht hvm hg hB hS1 => ?_)
  obtain ⟨hP1, hD1, hI1, hr1⟩ := hB
  rw [ht] at hP1
  exact kk ad' H1 locs1 hg hP1 hD1 hS1 hI1 hr1
set_option maxHeartbeats 4000000 in
set_option maxRecDepth 10000 in
theorem am_cl1 (hC : am_Cx p s m args meth c A D dA y) (hM : am_M l d z As S v S') (hL31 : L < 2 ^ 31) (hm : (pg_ow y, idx, z) ∈ lk_m) (hck : am_cok z true = true) (hn : As.length = (pg_sg z).1)
    (hP : va_P D vwCl (am_wd dA ad S) H) (hD : va_D A (am_wd dA ad S)) (hS : va_S A s.heap H locs) (hIv : am_Iv L xs S) (hE : am_E A ad adV L xs s s.heap) (hls : ls.size = pg_mx y) (hcat : am_cat rest ≤ 8) (hdg : decode (pg_by y) pc = .ok (.invokestatic idx, 3)) (hR1 : d + 9 ≤ R.frames) (hR2 : 64 * (d + 9) ≤ R.locals)
    (hfc : cells + (am_n S' - am_n S) ≤ R.cells ∧ slots + (am_w S' - am_w S) ≤ R.slots)
    (kk : ∀ (ad' : Nat → Nat) (H1 : Heap) (locs1 : List Loc), am_ag (am_n S) ad ad' → va_P D vwCl (am_wd dA ad' S') H1 → va_D A (am_wd dA ad' S') → va_S A s.heap H1 locs1 → am_Iv L xs S' → (∀ x, v = some (.ref x) → 2000000 ≤ x) → W p l e R s m args below meth c H1 locs1 (cells + (am_n S' - am_n S)) (slots + (am_w S' - am_w S)) Q (F0 m (pc + 3) ls ((v.map (am_tr ad')).toList ++ rest.map (am_tr ad)))) :
    W p l e R s m args below meth c H locs cells slots Q (F0 m pc ls ((As.map (am_tr ad)).reverse ++ rest.map (am_tr ad))) := by
  obtain ⟨hx, hb, hml, hown, hts, hK, hNW, hA, hnm⟩ := hC
  have hmx := (am_cok_spec hck).2.2.1
  have hroom : ({ frames := d + 8, cells := am_n S' - am_n S, slots := am_w S' - am_w S, locals := 64 * (d + 8) } : Room).frames + 1 ≤ R.frames ∧ 8 + (pg_mx z + 11) + ({ frames := d + 8, cells := am_n S' - am_n S, slots := am_w S' - am_w S, locals := 64 * (d + 8) } : Room).locals ≤ R.locals := ⟨am_room1 hR1, am_room2 hmx hR2⟩
  obtain ⟨hz, his, -, n, hpn, hsg⟩ := am_cok_spec hck
  obtain ⟨hcls, hmh⟩ := pg_cls z hz
  have hsg : (pg_sg z).1 = n := hsg
  have hT : GoodIn lw_gw (va_wsS (am_on (pg_ow y)) idx (pg_nm z) (pg_ws z)) := by
    intro w hw
    unfold va_wsS at hw
    simp only [List.cons_append, List.nil_append, List.mem_cons] at hw
    rcases hw with rfl | rfl | rfl | hw
    · exact ⟨lw_gw_in (lk_m_ok _ hm) rfl, Or.inl rfl⟩
    · exact ⟨lw_gw_in (pg_w_st hz his) rfl, Or.inl rfl⟩
    · exact ⟨lw_gw_in (pg_w_code hz) rfl, Or.inl rfl⟩
    · exact pg_ws_in hz w hw
  have hM1 := hM A D dA ad adV L xs hL31
  have cw : CallB R s args (am_on (pg_ow y)) idx (pg_nm z) (pg_by z) (pg_mx z) (pg_rt z) (pg_ws z) { frames := d + 8, cells := am_n S' - am_n S, slots := am_w S' - am_w S, locals := 64 * (d + 8) } (am_n S' - am_n S) (am_w S' - am_w S) n ∧ (Cond.static (pg_nm z)).before args s = true := va_cwS n hts hT (ws' := lw_gw) rfl rfl rfl ⟨hmh.1, hmh.2, hpn⟩ hroom
  have hp : PreS s H (va_Pc (As.map (am_tr ad)) (am_B A D dA ad adV L xs S)) (As.map (am_tr ad)) := ⟨am_B.blind, fun U hU hW => ⟨rfl, am_pre hK hNW hA hP hD hS hIv hE hU hW⟩⟩
  have hr := va_runS (p := p) (e := e) (below := below) (locs := locs) (cells := cells) (slots := slots) (meth := meth) (As := As.map (am_tr ad)) (rest := rest.map (am_tr ad)) (g := F0 m pc ls ((As.map (am_tr ad)).reverse ++ rest.map (am_tr ad))) ⟨hx, hb, hml, hown, hts⟩ hM1 cw hp rfl (by rw [List.length_map]; clear hz; omega) hls rfl (lv_room (by rw [am_cat_tr]; exact hcat)) hdg hfc
  refine am_callk hr hS (fun ad' t H1 locs1 ht hvm hg hB hS1 => ?_)
  obtain ⟨hP1, hD1, hI1, hr1⟩ := hB
  rw [ht] at hP1
  exact kk ad' H1 locs1 hg hP1 hD1 hS1 hI1 hr1
set_option maxHeartbeats 4000000 in
set_option maxRecDepth 10000 in
theorem am_cl2 (hC : am_Cx p s m args meth c A D dA y) (hM : am_M l d z As S v S') (hL31 : L < 2 ^ 31) (hm : (pg_ow y, idx, z, 11) ∈ lk_nm) (hck : am_cok z true = true) (hn : As.length = (pg_sg z).1)
    (hP : va_P D vwCl (am_wd dA ad S) H) (hD : va_D A (am_wd dA ad S)) (hS : va_S A s.heap H locs) (hIv : am_Iv L xs S) (hE : am_E A ad adV L xs s s.heap) (hls : ls.size = pg_mx y) (hcat : am_cat rest ≤ 8) (hdg : decode (pg_by y) pc = .ok (.invokestatic idx, 3)) (hR1 : d + 9 ≤ R.frames) (hR2 : 64 * (d + 9) ≤ R.locals)
    (hfc : cells + (am_n S' - am_n S) ≤ R.cells ∧ slots + (am_w S' - am_w S) ≤ R.slots)
    (kk : ∀ (ad' : Nat → Nat) (H1 : Heap) (locs1 : List Loc), am_ag (am_n S) ad ad' → va_P D vwCl (am_wd dA ad' S') H1 → va_D A (am_wd dA ad' S') → va_S A s.heap H1 locs1 → am_Iv L xs S' → (∀ x, v = some (.ref x) → 2000000 ≤ x) → W p l e R s m args below meth c H1 locs1 (cells + (am_n S' - am_n S)) (slots + (am_w S' - am_w S)) Q (F0 m (pc + 3) ls ((v.map (am_tr ad')).toList ++ rest.map (am_tr ad)))) :
    W p l e R s m args below meth c H locs cells slots Q (F0 m pc ls ((As.map (am_tr ad)).reverse ++ rest.map (am_tr ad))) := by
  obtain ⟨hx, hb, hml, hown, hts, hK, hNW, hA, hnm⟩ := hC
  have hmx := (am_cok_spec hck).2.2.1
  have hroom : ({ frames := d + 8, cells := am_n S' - am_n S, slots := am_w S' - am_w S, locals := 64 * (d + 8) } : Room).frames + 1 ≤ R.frames ∧ 8 + (pg_mx z + 11) + ({ frames := d + 8, cells := am_n S' - am_n S, slots := am_w S' - am_w S, locals := 64 * (d + 8) } : Room).locals ≤ R.locals := ⟨am_room1 hR1, am_room2 hmx hR2⟩
  obtain ⟨hz, his, -, n, hpn, hsg⟩ := am_cok_spec hck
  obtain ⟨hcls, hmh⟩ := pg_cls z hz
  have hsg : (pg_sg z).1 = n := hsg
  have hin : ∀ {w : Cond}, w ∈ lw_tbl → goodWord w = true → w.before args s = true := fun h1 h2 => hts _ (lw_gw_in h1 h2)
  have hnw : va_Nw (.methodLinkNest (am_on (pg_ow y)) idx (pg_nm z) (am_on 11)) s := hNW.1 (pg_ow y, idx, z, 11) hm
  have hM1 := hM A D dA ad adV L xs hL31
  have cw : va_CN R s args (am_on (pg_ow y)) idx (pg_nm z) (am_on 11) (pg_by z) (pg_mx z) (pg_rt z) (pg_ws z) { frames := d + 8, cells := am_n S' - am_n S, slots := am_w S' - am_w S, locals := 64 * (d + 8) } (am_n S' - am_n S) (am_w S' - am_w S) n ∧ (Cond.static (pg_nm z)).before args s = true ∧ True := ⟨va_cnB n hts (pg_ws_in hz) (ws' := lw_gw) rfl rfl rfl hnw (hin (pg_w_code hz) rfl) ⟨hmh.1, hmh.2, hpn⟩ hroom, hin (pg_w_st hz his) rfl, trivial⟩
  have hp : PreS s H (va_Pc (As.map (am_tr ad)) (am_B A D dA ad adV L xs S)) (As.map (am_tr ad)) := ⟨am_B.blind, fun U hU hW => ⟨rfl, am_pre hK hNW hA hP hD hS hIv hE hU hW⟩⟩
  have hr := va_runSN (p := p) (e := e) (below := below) (locs := locs) (cells := cells) (slots := slots) (meth := meth) (As := As.map (am_tr ad)) (rest := rest.map (am_tr ad)) (g := F0 m pc ls ((As.map (am_tr ad)).reverse ++ rest.map (am_tr ad))) ⟨hx, hb, hml, hown, hts⟩ hM1 cw hp rfl (by rw [List.length_map]; clear hz; omega) hls rfl (lv_room (by rw [am_cat_tr]; exact hcat)) hdg hfc
  refine am_callk hr hS (fun ad' t H1 locs1 ht hvm hg hB hS1 => ?_)
  obtain ⟨hP1, hD1, hI1, hr1⟩ := hB
  rw [ht] at hP1
  exact kk ad' H1 locs1 hg hP1 hD1 hS1 hI1 hr1
set_option maxHeartbeats 4000000 in
set_option maxRecDepth 10000 in
theorem am_cl3 (hC : am_Cx p s m args meth c A D dA y) (hM : am_M l d z (.ref b :: As) S v S') (hL31 : L < 2 ^ 31) (hm : (pg_ow y, idx, z) ∈ lk_m) (hck : am_cok z false = true) (hni : (pg_nm z).name = "<init>") (hrt : pg_rt z = none) (hn : As.length + 1 = (pg_sg z).1)
    (hP : va_P D vwCl (am_wd dA ad S) H) (hD : va_D A (am_wd dA ad S)) (hS : va_S A s.heap H locs) (hIv : am_Iv L xs S) (hE : am_E A ad adV L xs s s.heap) (hls : ls.size = pg_mx y) (hcat : am_cat rest ≤ 8) (hdg : decode (pg_by y) pc = .ok (.invokespecial idx, 3)) (hR1 : d + 9 ≤ R.frames) (hR2 : 64 * (d + 9) ≤ R.locals)
    (hfc : cells + (am_n S' - am_n S) ≤ R.cells ∧ slots + (am_w S' - am_w S) ≤ R.slots)
    (kk : ∀ (ad' : Nat → Nat) (H1 : Heap) (locs1 : List Loc), am_ag (am_n S) ad ad' → va_P D vwCl (am_wd dA ad' S') H1 → va_D A (am_wd dA ad' S') → va_S A s.heap H1 locs1 → am_Iv L xs S' → (∀ x, v = some (.ref x) → 2000000 ≤ x) → W p l e R s m args below meth c H1 locs1 (cells + (am_n S' - am_n S)) (slots + (am_w S' - am_w S)) Q (F0 m (pc + 3) ls ((v.map (am_tr ad')).toList ++ rest.map (am_tr ad)))) :
    W p l e R s m args below meth c H locs cells slots Q (F0 m pc ls ((As.map (am_tr ad)).reverse ++ .ref (ad b) :: rest.map (am_tr ad))) := by
  obtain ⟨hx, hb, hml, hown, hts, hK, hNW, hA, hnm⟩ := hC
  have hmx := (am_cok_spec hck).2.2.1
  have hroom : ({ frames := d + 8, cells := am_n S' - am_n S, slots := am_w S' - am_w S, locals := 64 * (d + 8) } : Room).frames + 1 ≤ R.frames ∧ 8 + (pg_mx z + 11) + ({ frames := d + 8, cells := am_n S' - am_n S, slots := am_w S' - am_w S, locals := 64 * (d + 8) } : Room).locals ≤ R.locals := ⟨am_room1 hR1, am_room2 hmx hR2⟩
  obtain ⟨hz, his, -, n, hpn, hsg⟩ := am_cok_spec hck
  obtain ⟨hcls, hmh⟩ := pg_cls z hz
  have hsg : (pg_sg z).1 = n + 1 := hsg
  have hin : ∀ {w : Cond}, w ∈ lw_tbl → goodWord w = true → w.before args s = true := fun h1 h2 => hts _ (lw_gw_in h1 h2)
  have hpw : pg_ws z = .code (pg_nm z) (pg_by z) (pg_mx z) none :: lw_gw := by unfold pg_ws; rw [hrt]
  have hM1 := hM A D dA ad adV L xs hL31
  have cw : CallB R s args (am_on (pg_ow y)) idx (pg_nm z) (pg_by z) (pg_mx z) none (pg_ws z) { frames := d + 8, cells := am_n S' - am_n S, slots := am_w S' - am_w S, locals := 64 * (d + 8) } (am_n S' - am_n S) (am_w S' - am_w S) n ∧ (pg_nm z).name = "<init>" ∧ (Cond.instanceMethod (pg_nm z)).before args s = true := cwI n hts (pg_ws_in hz) (ws' := lw_gw) hpw rfl rfl (hin (pg_w_code hz) rfl) (hin (lk_m_ok _ hm) rfl) (hin (pg_w_in hz his) rfl) hni ⟨hmh.1, hmh.2, hpn⟩ hroom
  have hp : PreS s H (va_Pc ((.ref b :: As).map (am_tr ad)) (am_B A D dA ad adV L xs S)) (.ref (ad b) :: As.map (am_tr ad)) := ⟨am_B.blind, fun U hU hW => ⟨rfl, am_pre hK hNW hA hP hD hS hIv hE hU hW⟩⟩
  have hr := va_runI (p := p) (e := e) (below := below) (locs := locs) (cells := cells) (slots := slots) (meth := meth) (As := As.map (am_tr ad)) (rest := rest.map (am_tr ad)) (g := F0 m pc ls ((As.map (am_tr ad)).reverse ++ .ref (ad b) :: rest.map (am_tr ad))) ⟨hx, hb, hml, hown, hts⟩ hM1 cw hp rfl (by rw [List.length_map]; clear hz; omega) hls rfl (lv_room (by rw [am_cat_tr]; exact hcat)) hdg hfc
  refine am_callk hr hS (fun ad' t H1 locs1 ht hvm hg hB hS1 => ?_)
  obtain ⟨hP1, hD1, hI1, hr1⟩ := hB
  rw [ht] at hP1
  exact kk ad' H1 locs1 hg hP1 hD1 hS1 hI1 hr1
set_option maxHeartbeats 4000000 in
set_option maxRecDepth 10000 in
theorem am_cl4 (hC : am_Cx p s m args meth c A D dA y) (hM : am_M l d z (.ref b :: As) S v S') (hL31 : L < 2 ^ 31) (hm : (pg_ow y, idx, z, 11) ∈ lk_nm) (hck : am_cok z false = true) (hni : (pg_nm z).name = "<init>") (hrt : pg_rt z = none) (hn : As.length + 1 = (pg_sg z).1)
    (hP : va_P D vwCl (am_wd dA ad S) H) (hD : va_D A (am_wd dA ad S)) (hS : va_S A s.heap H locs) (hIv : am_Iv L xs S) (hE : am_E A ad adV L xs s s.heap) (hls : ls.size = pg_mx y) (hcat : am_cat rest ≤ 8) (hdg : decode (pg_by y) pc = .ok (.invokespecial idx, 3)) (hR1 : d + 9 ≤ R.frames) (hR2 : 64 * (d + 9) ≤ R.locals)
    (hfc : cells + (am_n S' - am_n S) ≤ R.cells ∧ slots + (am_w S' - am_w S) ≤ R.slots)
    (kk : ∀ (ad' : Nat → Nat) (H1 : Heap) (locs1 : List Loc), am_ag (am_n S) ad ad' → va_P D vwCl (am_wd dA ad' S') H1 → va_D A (am_wd dA ad' S') → va_S A s.heap H1 locs1 → am_Iv L xs S' → (∀ x, v = some (.ref x) → 2000000 ≤ x) → W p l e R s m args below meth c H1 locs1 (cells + (am_n S' - am_n S)) (slots + (am_w S' - am_w S)) Q (F0 m (pc + 3) ls ((v.map (am_tr ad')).toList ++ rest.map (am_tr ad)))) :
    W p l e R s m args below meth c H locs cells slots Q (F0 m pc ls ((As.map (am_tr ad)).reverse ++ .ref (ad b) :: rest.map (am_tr ad))) := by
  obtain ⟨hx, hb, hml, hown, hts, hK, hNW, hA, hnm⟩ := hC
  have hmx := (am_cok_spec hck).2.2.1
  have hroom : ({ frames := d + 8, cells := am_n S' - am_n S, slots := am_w S' - am_w S, locals := 64 * (d + 8) } : Room).frames + 1 ≤ R.frames ∧ 8 + (pg_mx z + 11) + ({ frames := d + 8, cells := am_n S' - am_n S, slots := am_w S' - am_w S, locals := 64 * (d + 8) } : Room).locals ≤ R.locals := ⟨am_room1 hR1, am_room2 hmx hR2⟩
  obtain ⟨hz, his, -, n, hpn, hsg⟩ := am_cok_spec hck
  obtain ⟨hcls, hmh⟩ := pg_cls z hz
  have hsg : (pg_sg z).1 = n + 1 := hsg
  have hin : ∀ {w : Cond}, w ∈ lw_tbl → goodWord w = true → w.before args s = true := fun h1 h2 => hts _ (lw_gw_in h1 h2)
  have hpw : pg_ws z = .code (pg_nm z) (pg_by z) (pg_mx z) none :: lw_gw := by unfold pg_ws; rw [hrt]
  have hnw : va_Nw (.methodLinkNest (am_on (pg_ow y)) idx (pg_nm z) (am_on 11)) s := hNW.1 (pg_ow y, idx, z, 11) hm
  have hM1 := hM A D dA ad adV L xs hL31
  have cw : va_CN R s args (am_on (pg_ow y)) idx (pg_nm z) (am_on 11) (pg_by z) (pg_mx z) none (pg_ws z) { frames := d + 8, cells := am_n S' - am_n S, slots := am_w S' - am_w S, locals := 64 * (d + 8) } (am_n S' - am_n S) (am_w S' - am_w S) n ∧ (pg_nm z).name = "<init>" ∧ (Cond.instanceMethod (pg_nm z)).before args s = true := ⟨va_cnB n hts (pg_ws_in hz) (ws' := lw_gw) hpw rfl rfl hnw (hin (pg_w_code hz) rfl) ⟨hmh.1, hmh.2, hpn⟩ hroom, hni, hin (pg_w_in hz his) rfl⟩
  have hp : PreS s H (va_Pc ((.ref b :: As).map (am_tr ad)) (am_B A D dA ad adV L xs S)) (.ref (ad b) :: As.map (am_tr ad)) := ⟨am_B.blind, fun U hU hW => ⟨rfl, am_pre hK hNW hA hP hD hS hIv hE hU hW⟩⟩
  have hr := va_runIN (p := p) (e := e) (below := below) (locs := locs) (cells := cells) (slots := slots) (meth := meth) (As := As.map (am_tr ad)) (rest := rest.map (am_tr ad)) (g := F0 m pc ls ((As.map (am_tr ad)).reverse ++ .ref (ad b) :: rest.map (am_tr ad))) ⟨hx, hb, hml, hown, hts⟩ hM1 cw hp rfl (by rw [List.length_map]; clear hz; omega) hls rfl (lv_room (by rw [am_cat_tr]; exact hcat)) hdg hfc
  refine am_callk hr hS (fun ad' t H1 locs1 ht hvm hg hB hS1 => ?_)
  obtain ⟨hP1, hD1, hI1, hr1⟩ := hB
  rw [ht] at hP1
  exact kk ad' H1 locs1 hg hP1 hD1 hS1 hI1 hr1
/-- a call that only reads, and answers an int -/
theorem am_callp {H0 : Heap} {st0 rst : List Value} {a : Array Value} {x : Int32} (hr : va_Run p l e R s m args below meth c H locs cells slots 0 0 (F0 m pc ls st0) rst (fun st oc t => oc = .returned (some (.int x)) ∧ t.heap = st.heap) A) (hS : va_S A H0 H locs)
    (kk : ∀ (locs1 : List Loc), va_S A H0 H locs1 → W p l e R s m args below meth c H locs1 cells slots Q (F0 m (pc + 3) ls (.int x :: rst))) : W p l e R s m args below meth c H locs cells slots Q (F0 m pc ls st0) := by
  intro T hT X
  obtain ⟨v1, st₀, t, T', L1, h0, X', hL, e1, e2, ⟨hv, hh⟩, st⟩ := hr T hT X
  cases hv
  obtain ⟨t2, a1, b1⟩ := kk (locs ++ L1) ⟨hS.1, hS.2.1, fun q hq => by
      rcases List.mem_append.mp hq with h | h
      · exact hS.2.2 q h
      · exact hL q h⟩ T' (by rw [e1, hh, h0]) X'
  exact ⟨t2, st t2 a1, b1⟩
end CL
