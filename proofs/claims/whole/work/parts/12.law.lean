/-! ===== the law's own method, as the small machine runs it ===== -/
/-- before anything is made: the rows of numbers, the script, the texts -/
def am_S00 (L : Nat) (xs : Nat → Int32) : am_S := (0, 0, (fun a => cond (Nat.blt a 2000000) 999 (cond (Nat.blt a 2000005) 998 (cond (Nat.blt a 4000000) 999 (cond (Nat.blt a 4000012) 997 999)))), (fun _ => 0), (fun _ _ => none),
  (fun a k => cond (Nat.blt a 3000000) (am_xf xs (a - 2000000) k) (cond (Nat.blt a 4000000) (nI (am_xl L (a - 3000000))) (cond (Nat.blt a 5000000) ((am_bt.getD (a - 4000000) []).getD k 0) (nI (am_sl.getD (a - 5000000) 0))))), (fun _ _ => 0))
theorem am_blt_t {a b : Nat} (h : a < b) : Nat.blt a b = true := by simpa [Nat.blt_eq] using h
theorem am_blt_f {a b : Nat} (h : b ≤ a) : Nat.blt a b = false := by
  cases hh : Nat.blt a b with
  | false => rfl
  | true => exact absurd (by simpa [Nat.blt_eq] using hh) (Nat.not_lt.mpr h)
theorem am_Iv00 {L : Nat} {xs : Nat → Int32} : am_Iv L xs (am_S00 L xs) := by
  have kc : ∀ a, am_c (am_S00 L xs) a = cond (Nat.blt a 2000000) 999 (cond (Nat.blt a 2000005) 998 (cond (Nat.blt a 4000000) 999 (cond (Nat.blt a 4000012) 997 999))) := fun _ => rfl
  have ki : ∀ a k, am_i (am_S00 L xs) a k = cond (Nat.blt a 3000000) (am_xf xs (a - 2000000) k) (cond (Nat.blt a 4000000) (nI (am_xl L (a - 3000000))) (cond (Nat.blt a 5000000) ((am_bt.getD (a - 4000000) []).getD k 0) (nI (am_sl.getD (a - 5000000) 0)))) := fun _ _ => rfl
  refine ⟨fun a ha => ?_, fun a ha => ?_, fun a ha => ?_, fun j hj k hk => ?_, fun j hj => ?_, fun i hi k hk => ?_, fun i hi => ?_, fun a j r hr => ?_, by show 0 < 1200; omega⟩
  · exfalso
    rw [kc] at ha
    cases h1 : Nat.blt a 2000000 <;> cases h2 : Nat.blt a 2000005 <;> cases h3 : Nat.blt a 4000000 <;> cases h4 : Nat.blt a 4000012 <;> rw [h1, h2, h3, h4] at ha <;> simp only [cond_true, cond_false] at ha <;> omega
  · rw [kc] at ha
    have h4 : Nat.blt a 4000012 = true := by
      cases h1 : Nat.blt a 2000000 <;> cases h2 : Nat.blt a 2000005 <;> cases h3 : Nat.blt a 4000000 <;> cases h4 : Nat.blt a 4000012 <;> rw [h1, h2, h3, h4] at ha <;> simp only [cond_true, cond_false] at ha <;> first | rfl | omega
    have h3 : ¬ Nat.blt a 4000000 = true := fun h3 => by
      rw [h3] at ha
      cases h1 : Nat.blt a 2000000 <;> cases h2 : Nat.blt a 2000005 <;> rw [h1, h2] at ha <;> simp only [cond_true, cond_false] at ha <;> omega
    have h3 : ¬ a < 4000000 := fun q => h3 (am_blt_t q)
    have h4 : a < 4000012 := by simpa [Nat.blt_eq] using h4
    exact ⟨a - 4000000, by omega, by omega⟩
  · rw [kc] at ha
    have h4 : Nat.blt a 2000005 = true := by
      cases h1 : Nat.blt a 2000000 <;> cases h2 : Nat.blt a 2000005 <;> cases h3 : Nat.blt a 4000000 <;> cases h4 : Nat.blt a 4000012 <;> rw [h1, h2, h3, h4] at ha <;> simp only [cond_true, cond_false] at ha <;> first | rfl | omega
    have h3 : ¬ Nat.blt a 2000000 = true := fun h3 => by
      rw [h3] at ha
      simp only [cond_true] at ha
      omega
    have h3 : ¬ a < 2000000 := fun q => h3 (am_blt_t q)
    have h4 : a < 2000005 := by simpa [Nat.blt_eq] using h4
    exact ⟨a - 2000000, by omega, by omega⟩
  · rw [ki, am_blt_t (by omega), cond_true, show 2000000 + j - 2000000 = j by omega]
  · rw [ki, am_blt_f (by omega), cond_false, am_blt_t (by omega), cond_true, show 3000000 + j - 3000000 = j by omega]
  · rw [ki, am_blt_f (by omega), cond_false, am_blt_f (by omega), cond_false, am_blt_t (by omega), cond_true, show 4000000 + i - 4000000 = i by omega]
  · rw [ki, am_blt_f (by omega), cond_false, am_blt_f (by omega), cond_false, am_blt_f (by omega), cond_false, show 5000000 + i - 5000000 = i by omega]
  · cases hr
section LW
variable {p : Program} {l : Launch} {e : Env} {R : Room} {s : State} {m : MethodId} {args : Array Value} {below : List Frame} {meth : Method} {c : Code} {H : Heap} {locs : List Loc} {cells slots : Nat} {Q : State → Prop}
theorem am_drop {g : JFrame} (hl : ∀ q ∈ locs, s.heap.size ≤ q.base) (k : W p l e R s m args below meth c H [] cells slots Q g) : W p l e R s m args below meth c H locs cells slots Q g := fun T hT X => k T hT (Stand.dropFresh (locs := []) (J := locs) X hl)
set_option maxHeartbeats 4000000 in
/-- the law's walk, out of a run of the small machine that ends with 1 -/
theorem am_law {b L : Nat} {xs : Nat → Int32} (hx : p.tables.exec = Jvm.exec) (hb : c.code = code) (hml : c.maxLocals = 4) (hown : s.vm.findClass "OneIsTwoLaw" = some m.cls) (hts : ∀ w ∈ lw_tbl, w.before #[.ref b] s = true) (hg : (Cond.and given_1 narrow_1).before #[.ref b] s = true) (hX : va_X b L xs s s.heap) (hbs : b < s.heap.size) (hL : L ≤ 3072) {n : Nat} {S' : am_S}
    (hrun : am_run (am_cal 1000) 274 n 0 (am_ent 274 [.ref 2000004]) [] (am_S00 L xs) = some (some (.int 1), S')) (hc : am_n S' ≤ 600000) (hw : am_w S' ≤ 7302250)
    (kk : ∀ (pc : Nat) (H : Heap) (ls : Array Slot), decode code pc = .ok (.ireturn, 1) → W p l e room_1 s m #[.ref b] below meth c H [] 600000 7302250 Q (F0 m pc ls [.int 1])) :
    W p l e room_1 s m #[.ref b] below meth c s.heap [] 0 0 Q (entryFrame m ([Value.ref b] : List Value).toArray 4) := by
  obtain ⟨D, dA, ad, adV, hK, hNW, hE, had⟩ := am_begin hL hts hg hX hbs
  have hl := lv_entry ([.ref b]) (n := 4) (Nat.le_of_ble_eq_true rfl)
  rw [lg_entry_eq]
  generalize (lg_sl ([.ref b]) ++ List.replicate (4 - (lg_sl ([.ref b])).length) Slot.unset).toArray = ls at hl ⊢
  have hh : am_has ad ls (pg_mx 274) (am_ent 274 [.ref 2000004]) := am_has_ent (n := 4) rfl rfl (Nat.le_of_ble_eq_true rfl) (by
    show lv_has ls 4 (lv_args 0 [.ref (ad 2000004)])
    rw [had]
    exact hl)
  have hC : am_Cx p s m #[.ref b] meth c (fun q => s.heap.size ≤ q) D dA 274 := ⟨hx, hb, hml, hown, fun w hw => hts w (List.mem_filter.mp hw).1, hK, hNW, fun q h => h, fun h => absurd h (by decide +kernel)⟩
  exact am_go (R := room_1) (args := #[.ref b]) (below := below) (Q := Q) (adV := adV) (L := L) (xs := xs) hC pg_ok_274 (f := am_cal 1000) (d := 1000) (am_Mall l 1000) (am_cal_mono 1000) (am_cal_nc 1000) (am_cal_rc 1000) (by omega) (am_str l) (by decide) (by decide) (r := (some (.int 1), S')) (n0 := 0) (w0 := 0) hc hw (ad0 := ad)
    (fun pc ad' H locs ls lo x hd hrt hrx hag hPt => by
      have hrt : some FieldType.boolean = some FieldType.int := hrt
      cases hrt)
    (fun pc ad' H locs ls lo x hd hrt hx01 hrx hag hPt => by
      obtain ⟨hP, hD, hS, hIv, hE, hl⟩ := hPt
      have hrx : some (Value.int 1) = some (Value.int x) := hrx
      cases hrx
      exact am_drop hS.2.2 (W.widen (k := 600000) (n := 7302250) hc hw (kk pc H ls hd)))
    (fun pc ad' H locs ls lo x hd hrt hrx hag hPt => by
      have hrt : some FieldType.boolean = some FieldType.long := hrt
      cases hrt)
    (fun pc ad' H locs ls lo x hd hrt hx2 hrx hag hPt => by
      obtain ⟨t, hrt⟩ := hrt
      have hrt : some FieldType.boolean = some (FieldType.object t) := hrt
      cases hrt)
    (fun pc ad' H locs ls lo hd hrt hrx hag hPt => by
      have hrt : some FieldType.boolean = none := hrt
      cases hrt)
    n 0 (am_ent 274 [.ref 2000004]) [] (am_S00 L xs) hrun 0 ad s.heap [] ls rfl (Nat.le_refl _) (Nat.le_refl _) am_ag.rf ⟨(fun k q h => by cases h), ⟨(fun i j p q h => by cases h), (fun k q h => by cases h)⟩, va_S.rf, am_Iv00, hE, hh⟩
end LW
