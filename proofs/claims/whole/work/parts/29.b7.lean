/-! ===== who is void, who takes a place; person, kin, common, says ===== -/
def mv (s : Rw) (e p : Nat) (day : Int32) : Prop := ((eF s e 0 = nI 1 ∧ ¬ isRs s p) ∨ (eF s e 0 = nI 2 ∧ isRs s p)) ∧ ¬ isVd s p ∧ ¬ pF s p 5 < day
noncomputable def v_pers (s : Rw) (x y : Int32) : Int32 := if isP s x then (if y = nI 0 then pF s x.toNatClampNeg 0 else if y = nI 1 then pF s x.toNatClampNeg 2 else if y = nI 2 then pF s x.toNatClampNeg 3 else if y = nI 3 then pF s x.toNatClampNeg 4 else if y = nI 4 then pF s x.toNatClampNeg 5 else if y = nI 5 then pF s x.toNatClampNeg 6 else if y = nI 6 then pF s x.toNatClampNeg 7 else if y = nI 7 then b2 (isVd s x.toNatClampNeg) else if y = nI 8 then nI (rt s (nP s) x.toNatClampNeg) else Int32.ofInt (-1)) else Int32.ofInt (-1)
def kinU (s : Rw) (p : Nat) : Nat → Nat → Int32 → Int32
  | 0, _, t => t
  | n + 1, q, t => kinU s p n (q + 1) (if bit (above s q) p then t ||| (nI 1 <<< (nI q &&& 31)) else t)
theorem kinU_s {s : Rw} {p n q : Nat} {t : Int32} : kinU s p (n + 1) q t = kinU s p n (q + 1) (if bit (above s q) p then t ||| (nI 1 <<< (nI q &&& 31)) else t) := rfl
def v_kin (s : Rw) (x : Int32) : Int32 := if isP s x then kinU s x.toNatClampNeg (nP s) 0 (nI 0) else Int32.ofInt (-1)
/-- the greatest below n whose bit is set -/
def topb (t : Int32) : Nat → Int32
  | 0 => m9
  | n + 1 => if bit t n then nI n else topb t n
theorem topb_s {t : Int32} {n : Nat} : topb t (n + 1) = if bit t n then nI n else topb t n := rfl
def v_comm (s : Rw) (x y : Int32) : Int32 := if isP s x then (if isP s y then topb (above s x.toNatClampNeg &&& above s y.toNatClampNeg) (nP s) else Int32.ofInt (-1)) else Int32.ofInt (-1)
noncomputable def v_says (s : Rw) (k x : Int32) : Int32 := if ¬ k < 0 ∧ ¬ nI 6 < k then (if isP s x then lawV s k (fct (s 0) (s 1) (nI 0) (pF s x.toNatClampNeg 0) (nI 0) (nI 0)) else Int32.ofInt (-1)) else Int32.ofInt (-1)
theorem abv_hi {s : Rw} (hW : WF s) {r : Nat} : ∀ (q : Nat) (t : Int32), q ≤ nP s → q ≤ r → bit (abv s q t) r = bit t r
  | 0, _, _, _ => rfl
  | q + 1, t, hq, hr => by
    have h12 := hW.nP.1
    by_cases h32 : 32 ≤ r
    · rw [bit_hi h32, bit_hi h32]
    · unfold abv
      split
      · exact abv_hi hW q t (by omega) (by omega)
      · rw [abv_hi hW q _ (by omega) (by omega), bit_or]
        have e2 : bit (if pF s q 2 < 0 then t else t ||| (nI 1 <<< (pF s q 2 &&& 31))) r = bit t r := by
          rcases hW.fr (show q < nP s by omega) with ⟨h2, _⟩ | ⟨j, hj, h2, _⟩
          · rw [h2, if_pos (by rw [m9_lt]; trivial)]
          · rw [h2, if_neg (nI_pos (by omega)), bit_or, bit_one j (by omega) r (by omega), decide_eq_false (by omega), Bool.or_false]
        have e3 : bit (if pF s q 3 < 0 then nI 0 else nI 1 <<< (pF s q 3 &&& 31)) r = false := by
          rcases hW.al (show q < nP s by omega) with ⟨h2, _⟩ | ⟨j, hj, h2, _⟩
          · rw [h2, if_pos (by rw [m9_lt]; trivial), bit_n0]
          · rw [h2, if_neg (nI_pos (by omega)), bit_one j (by omega) r (by omega), decide_eq_false (by omega)]
        rw [e2, e3, Bool.or_false]
theorem above_hi {s : Rw} (hW : WF s) {q r : Nat} (hq : q < nP s) (hr : q < r) : bit (above s q) r = false := by
  have h12 := hW.nP.1
  by_cases h32 : 32 ≤ r
  · exact bit_hi h32
  · unfold above
    rw [abv_hi hW (q + 1) _ (by omega) (by omega), bit_one q (by omega) r (by omega), decide_eq_false (by omega)]
theorem kinU_skip {s : Rw} (hW : WF s) {p : Nat} : ∀ (n q : Nat) (t : Int32), q + n ≤ p → p < nP s → ∀ m, kinU s p (n + m) q t = kinU s p m (q + n) t
  | 0, q, t, _, _, m => by rw [Nat.zero_add, Nat.add_zero]
  | n + 1, q, t, h, hp, m => by
    rw [show n + 1 + m = (n + m) + 1 by omega]
    show kinU s p (n + m) (q + 1) (if bit (above s q) p then _ else t) = _
    rw [above_hi hW (by omega) (show q < p by omega), if_neg (by decide), kinU_skip hW n (q + 1) t (by omega) hp m, show q + 1 + n = q + (n + 1) by omega]
theorem onE_sl {s : Rw} (hW : WF s) {e p : Nat} {a h : Int32} : onE s (nI 6) e p a h = nI 0 ∨ onE s (nI 6) e p a h = nI 1 := by
  unfold onE lawV
  generalize fct _ _ _ _ _ _ = f
  have lp : ∀ c, c ≤ nL s → lawU s (nI 6) f c = nI 0 ∨ lawU s (nI 6) f c = nI 1 := by
    intro c
    induction c with
    | zero => intro _; exact Or.inl rfl
    | succ c ih =>
      intro hc
      rw [lawU_s]
      split
      · rename_i h
        obtain ⟨k, v, hk, hv, e0, e1, _, h6⟩ := (hW.2.2.2.2.2.2.2.2 c hc).2
        rw [e0] at h
        have := (nI_eq (by omega) (by decide)).mp h.1
        have := h6 this
        rw [e1]
        rcases (show v = 0 ∨ v = 1 by omega) with rfl | rfl
        · exact Or.inl rfl
        · exact Or.inr rfl
      · exact ih (by omega)
  exact lp _ (Nat.le_refl _)
theorem b2_z {c : Prop} : (b2 c = nI 0) = ¬ c := by rw [← n_i0]; exact b2_0
section B7
variable {I : mI} {J : mJ} {w p q e c d l b : Nat} {s : Rw} {x y key day : Int32}
theorem F2.rf {b c : Nat} {I : mI} : F2 b c I I := fun _ _ _ => rfl
theorem F2.tr {b c : Nat} {I I1 I2 : mI} (h1 : F2 b c I1 I) (h2 : F2 b c I2 I1) : F2 b c I2 I := fun a ha hb => by rw [h2 a ha hb, h1 a ha hb]
/-- a copy's own event -/
theorem WF.cb (h : WF s) (hp : p < Jvm.Pilot.COneIsTwoLaw_law_r4618_45b3fe.nP s) : pF s p 9 = nI (byE s p) ∧ byE s p < Jvm.Pilot.COneIsTwoLaw_law_r4618_45b3fe.nE s ∧ eF s (byE s p) 1 = nI p ∧ eF s (byE s p) 2 = pF s p 4 ∧ (isCp s p → eF s (byE s p) 0 = nI 1) := by
  obtain ⟨h1, _, _, _, _, ⟨h9, he, h91, h92⟩, _⟩ := h.per hp
  refine ⟨h9, he, h91, h92, fun hc => ?_⟩
  rcases h1 with ⟨h1, _⟩ | ⟨_, _, _, _, _, h1⟩ | ⟨h1, _⟩
  · rcases hc with hc | hc | hc <;> rw [h1] at hc <;> exact absurd hc (by decide)
  · exact h1
  · rcases hc with hc | hc | hc <;> rw [h1] at hc <;> exact absurd hc (by decide)
theorem m172 (hW : WF (I 230)) (hp : p < nP (I 230)) : ∃ I', F2 236 237 I' I ∧ am_cal (d + 5) 172 [.ref 229, .int (nI p)] (mS I J) = some (some (.int (b2 (isVd (I 230) p))), mS I' J) := by
  have h12 := hW.nP.1
  rw [c_172 lc_229, m155 (by omega), bI_s]
  by_cases hc : isCp (I 230) p
  · rw [if_pos hc, if_neg (by decide), m152 (by omega) (by decide), bI_s]
    obtain ⟨h9, he, h91, h92, h90⟩ := hW.cb hp
    obtain ⟨I', hF, hr⟩ := m198 (J := J) (d := d) (key := nI 5) hW he (Or.inl (h90 hc)) hp h91
    by_cases h8 : pF (I 230) p 8 = nI 0
    · refine ⟨I', hF, ?_⟩
      rw [h8, if_pos nI_0, m152 (by omega) (by decide), bI_s, h9, hr, bI_s]
      by_cases hv : onE (I 230) (nI 5) (byE (I 230) p) p (nI 0) (nI 0) = nI 1
      · rw [if_pos hv, b2_t (show isVd (I 230) p from ⟨hc, h8, hv⟩)]
      · rw [if_neg hv, b2_f (show ¬ isVd (I 230) p from fun h => hv h.2.2)]
    · refine ⟨I, F2.rf, ?_⟩
      rw [if_neg (by rw [n_i0]; exact h8), b2_f (show ¬ isVd (I 230) p from fun h => h8 h.2.1)]
  · refine ⟨I, F2.rf, ?_⟩
    rw [if_neg hc, if_pos nI_0, b2_f (show ¬ isVd (I 230) p from fun h => hc h.1)]
theorem k88 (hw : isW w) (h : Rep I w s) (hW : WF s) (he : e < nE s) (hp : p < nP s) (hep : eF s e 1 = nI p) : am_cal (d + 1) 88 [.ref w, .ref (w + 25 + e), .int day] (mS I J) = some (some (.int (b2 (mv s e p day))), mS I J) := by
  have h12 := hW.nP.1
  have h18 := hW.nE.1
  have i0c : (nI (p)).toNatClampNeg = p := nI_clamp (by omega)
  have i0z : (nI (p) < 0) = False := n_ge0 (by omega)
  have i0l : (12 ≤ p) = False := n_lef (by omega)
  have e0 := h.eF he (show 0 < 3 by decide)
  have e1 := h.eF he (show 1 < 3 by decide)
  have fin : ∀ t0 : Int32, am_X (am_cal d) 88 25 [.null, .null, .int day, .ref (w + 13 + p)] [.int t0, .int (b2 (isRs s p))] (mS I J) = some (some (.int (b2 (b2 (isRs s p) = t0 ∧ ¬ isVd s p ∧ ¬ pF s p 5 < day))), mS I J) := by
    intro t0
    rw [e_88_25]
    simp only [w_cp hw (show p < 12 by omega), h.vd hp, h.pF hp (show 5 < 8 by decide), bq_s, mS_c, mS_l, mS_r, mS_i, mS_j, mS_pi, mS_pj, lt_st, bq_s, bV_s, bI_s, bJ_s, bA_s, nz_0, nc_0, nz_1, nc_1, nz_2, nc_2, nz_3, nc_3, nz_4, nc_4, nz_5, nc_5, nz_6, nc_6, nz_7, nc_7, nz_8, nc_8, nz_9, nc_9, nz_10, nc_10, nz_11, nc_11, nz_12, nc_12, if_true, if_false, eq_self, true_and, and_true, false_or, or_false, true_or, or_true, false_and, and_false, not_true, not_false_eq_true, ne_eq, ite_self, ite_not, ↓reduceIte, n_101, n_107, n_11]
    by_cases hr : b2 (isRs s p) = t0
    · rw [if_pos hr]
      by_cases hv : isVd s p
      · rw [if_b2t hv, b2_f (fun h => h.2.1 hv)]
      · rw [if_b2f hv]
        by_cases hm : pF s p 5 < day
        · rw [if_pos hm, b2_f (fun h => h.2.2 hm)]
        · rw [if_neg hm, b2_t ⟨hr, hv, hm⟩]
    · rw [if_neg hr, b2_f (fun h => hr h.1)]
  rw [c_88 (w_C hw)]
  simp only [w_C hw, w_R0 hw, w_C1 hw, w_L1 hw, w_ce hw (show e < 18 by omega), w_rp hw (show p < 12 by omega), w_cp hw (show p < 12 by omega), e0, e1, hep, i0c, i0z, i0l, h.rs hp, fin, bq_s, mS_c, mS_l, mS_r, mS_i, mS_j, mS_pi, mS_pj, lt_st, bq_s, bV_s, bI_s, bJ_s, bA_s, nz_0, nc_0, nz_1, nc_1, nz_2, nc_2, nz_3, nc_3, nz_4, nc_4, nz_5, nc_5, nz_6, nc_6, nz_7, nc_7, nz_8, nc_8, nz_9, nc_9, nz_10, nc_10, nz_11, nc_11, nz_12, nc_12, if_true, if_false, eq_self, true_and, and_true, false_or, or_false, true_or, or_true, false_and, and_false, not_true, not_false_eq_true, ne_eq, ite_self, ite_not, ↓reduceIte, n_101, n_107, n_11]
  by_cases h1 : eF s e 0 = nI 1
  · rw [if_pos h1, if_neg (by rw [h1]; decide)]
    refine congrArg (fun z => some (some (Value.int z), mS I J)) (b2_iff ?_)
    rw [b2_z]
    exact ⟨fun h => ⟨Or.inl ⟨h1, h.1⟩, h.2⟩, fun h => ⟨by
      rcases h.1 with h | h
      · exact h.2
      · rw [h1] at h; exact absurd h.1 (by decide), h.2⟩⟩
  · rw [if_neg h1]
    by_cases h2 : eF s e 0 = nI 2
    · rw [if_pos h2, if_pos h2]
      refine congrArg (fun z => some (some (Value.int z), mS I J)) (b2_iff ?_)
      rw [b2_1]
      exact ⟨fun h => ⟨Or.inr ⟨h2, h.1⟩, h.2⟩, fun h => ⟨by
        rcases h.1 with h | h
        · exact absurd h.1 h1
        · exact h.2, h.2⟩⟩
    · rw [if_neg h2, b2_f (fun h => by
        rcases h.1 with h | h
        · exact h1 h.1
        · exact h2 h.1)]
theorem m207 (hW : WF (I 230)) (he : e < nE (I 230)) (hp : p < nP (I 230)) (hep : eF (I 230) e 1 = nI p) : ∃ I', F2 236 237 I' I ∧ am_cal (d + 6) 207 [.ref 229, .int (nI e), .int day] (mS I J) = some (some (.int (b2 (mv (I 230) e p day))), mS I' J) := by
  have h12 := hW.nP.1
  have h18 := hW.nE.1
  have hep' : I 230 (130 + 3 * e + 1) = nI p := hep
  have a0 : nI 130 + nI 3 * nI e = nI (130 + 3 * e) := by rw [pk_mul, nI_add]
  have a1 : nI (130 + 3 * e) + nI 1 = nI (130 + 3 * e + 1) := nI_add _ _
  have i0c : (nI (130 + 3 * e)).toNatClampNeg = 130 + 3 * e := nI_clamp (by omega)
  have i0z : (nI (130 + 3 * e) < 0) = False := n_ge0 (by omega)
  have i0l : (546 ≤ 130 + 3 * e) = False := n_lef (by omega)
  have i1c : (nI (130 + 3 * e + 1)).toNatClampNeg = 130 + 3 * e + 1 := nI_clamp (by omega)
  have i1z : (nI (130 + 3 * e + 1) < 0) = False := n_ge0 (by omega)
  have i1l : (546 ≤ 130 + 3 * e + 1) = False := n_lef (by omega)
  have f1 : ∀ I1 : mI, F2 236 237 I1 I → I1 230 = I 230 := fun I1 h => h 230 (by decide) (by decide)
  -- behind: is it his time (t), is the moment late enough, is he void
  have l70 : ∀ (I1 : mI) (t : Prop), F2 236 237 I1 I → ∃ I', F2 236 237 I' I ∧ am_X (am_cal (d + 5)) 207 70 [.ref 229, .null, .int day, .null, .int (nI p), .null, .null, .null] [.int (b2 t)] (mS I1 J) = some (some (.int (b2 (t ∧ ¬ isVd (I 230) p ∧ ¬ pF (I 230) p 5 < day))), mS I' J) := by
    intro I1 t h1
    have e0 := f1 I1 h1
    rw [e_207_70]
    by_cases ht : t
    · rw [if_b2t ht, m152 (by omega) (by decide), bI_s, e0]
      by_cases hm : pF (I 230) p 5 < day
      · exact ⟨I1, h1, by rw [if_pos hm, b2_f (fun h => h.2.2 hm)]⟩
      · obtain ⟨I2, h2, hr⟩ := m172 (d := d) (J := J) (I := I1) (p := p) (by rw [e0]; exact hW) (by rw [e0]; exact hp)
        refine ⟨I2, h1.tr h2, ?_⟩
        rw [if_neg hm, hr, bI_s, e0]
        by_cases hv : isVd (I 230) p
        · rw [if_b2t hv, b2_f (fun h => h.2.1 hv)]
        · rw [if_b2f hv, b2_t ⟨ht, hv, hm⟩]
    · exact ⟨I1, h1, by rw [if_b2f ht, b2_f (fun h => ht h.1)]⟩
  have l53 : ∀ (I1 : mI) (x3 : Int32), F2 236 237 I1 I → (x3 = nI 1 ∨ (x3 = nI 2 ∧ pF (I 230) p 1 = nI 5)) → ∃ I', F2 236 237 I' I ∧ am_X (am_cal (d + 5)) 207 37 [.ref 229, .null, .int day, .int x3, .int (nI p), .null, .null, .null] [.int (b2 (pF (I 230) p 1 = nI 5))] (mS I1 J) = some (some (.int (b2 (((x3 = nI 1 ∧ ¬ isRs (I 230) p) ∨ (x3 = nI 2 ∧ isRs (I 230) p)) ∧ ¬ isVd (I 230) p ∧ ¬ pF (I 230) p 5 < day))), mS I' J) := by
    intro I1 x3 h1 hx
    have e0 := f1 I1 h1
    have st : ∀ (I2 : mI) (B : Prop), F2 236 237 I2 I → (pF (I 230) p 1 = nI 5 → (B ↔ ¬ isRs (I 230) p)) → ∃ I', F2 236 237 I' I ∧ am_X (am_cal (d + 5)) 207 53 [.ref 229, .null, .int day, .int x3, .int (nI p), .int (b2 (pF (I 230) p 1 = nI 5)), .null, .null] [.int (b2 B)] (mS I2 J) = some (some (.int (b2 (((x3 = nI 1 ∧ ¬ isRs (I 230) p) ∨ (x3 = nI 2 ∧ isRs (I 230) p)) ∧ ¬ isVd (I 230) p ∧ ¬ pF (I 230) p 5 < day))), mS I' J) := by
      intro I2 B h2 hB
      have go : ∀ t : Prop, (t ↔ ((x3 = nI 1 ∧ ¬ isRs (I 230) p) ∨ (x3 = nI 2 ∧ isRs (I 230) p))) → ∃ I', F2 236 237 I' I ∧ am_X (am_cal (d + 5)) 207 70 [.ref 229, .null, .int day, .null, .int (nI p), .null, .null, .null] [.int (b2 t)] (mS I2 J) = some (some (.int (b2 (((x3 = nI 1 ∧ ¬ isRs (I 230) p) ∨ (x3 = nI 2 ∧ isRs (I 230) p)) ∧ ¬ isVd (I 230) p ∧ ¬ pF (I 230) p 5 < day))), mS I' J) := by
        intro t ht
        obtain ⟨I', hF, hr⟩ := l70 I2 t h2
        exact ⟨I', hF, by rw [hr, propext ht]⟩
      have tr := go True
      have fa := go False
      rw [b2_t trivial] at tr
      rw [b2_f id] at fa
      rw [e_207_53]
      rcases hx with hx | ⟨hx, h5⟩
      · rw [if_pos hx]
        by_cases h5 : pF (I 230) p 1 = nI 5
        · rw [if_b2t h5]
          by_cases hb : B
          · rw [if_b2t hb]
            exact tr ⟨fun _ => Or.inl ⟨hx, (hB h5).mp hb⟩, fun _ => trivial⟩
          · rw [if_b2f hb]
            exact fa ⟨fun h => h.elim, fun h => by
              rcases h with h | h
              · exact hb ((hB h5).mpr h.2)
              · rw [hx] at h; exact absurd h.1 (by decide)⟩
        · rw [if_b2f h5]
          exact tr ⟨fun _ => Or.inl ⟨hx, fun h => h5 h.1⟩, fun _ => trivial⟩
      · rw [if_neg (by rw [hx]; decide)]
        by_cases hb : B
        · rw [if_b2t hb]
          exact fa ⟨fun h => h.elim, fun h => by
            rcases h with h | h
            · rw [hx] at h; exact absurd h.1 (by decide)
            · exact (hB h5).mp hb h.2⟩
        · rw [if_b2f hb]
          exact tr ⟨fun _ => Or.inr ⟨hx, Classical.byContradiction fun h => hb ((hB h5).mpr h)⟩, fun _ => trivial⟩
    rw [e_207_37]
    by_cases h5 : pF (I 230) p 1 = nI 5
    · rw [if_b2t h5, m152 (by omega) (by decide), bI_s, e0]
      obtain ⟨h9, he9, h91, h92, h90⟩ := hW.cb hp
      obtain ⟨I2, h2, hr⟩ := m198 (J := J) (I := I1) (d := d + 1) (key := nI 6) (by rw [e0]; exact hW) (by rw [e0]; exact he9) (Or.inl (by rw [e0]; exact h90 (Or.inr (Or.inr h5)))) (by rw [e0]; exact hp) (by rw [e0]; exact h91)
      rw [h9, hr, bI_s, e0]
      have tr := st I2 True (h1.tr h2)
      have fa := st I2 False (h1.tr h2)
      rw [b2_t trivial] at tr
      rw [b2_f id] at fa
      by_cases hv : onE (I 230) (nI 6) (byE (I 230) p) p (nI 0) (nI 0) = nI 1
      · rw [if_pos hv]
        exact tr fun _ => ⟨fun _ h => h.2 hv, fun _ => trivial⟩
      · rw [if_neg hv]
        exact fa fun h5 => ⟨fun h => h.elim, fun h => h ⟨h5, hv⟩⟩
    · rw [if_b2f h5]
      have fa := st I1 False h1
      rw [b2_f id] at fa
      exact fa fun h => absurd h h5
  rw [c_207 lc_229]
  simp only [a0, a1, i0c, i0z, i0l, i1c, i1z, i1l, hep', lc_229, lr_229_0, lc_230, ll_230, bq_s, mS_c, mS_l, mS_r, mS_i, mS_j, mS_pi, mS_pj, lt_st, bq_s, bV_s, bI_s, bJ_s, bA_s, nz_0, nc_0, nz_1, nc_1, nz_2, nc_2, nz_3, nc_3, nz_4, nc_4, nz_5, nc_5, nz_6, nc_6, nz_7, nc_7, nz_8, nc_8, nz_9, nc_9, nz_10, nc_10, nz_11, nc_11, nz_12, nc_12, if_true, if_false, eq_self, true_and, and_true, false_or, or_false, true_or, or_true, false_and, and_false, not_true, not_false_eq_true, ne_eq, ite_self, ite_not, ↓reduceIte]
  rw [m152 (by omega) (by decide), bI_s]
  have cond : ∀ A B : am_R, (if pF (I 230) p 1 = nI 5 then A else B) = if b2 (pF (I 230) p 1 = nI 5) = 0 then B else A := fun A B => by
    by_cases h5 : pF (I 230) p 1 = nI 5
    · rw [if_pos h5, if_b2t h5]
    · rw [if_neg h5, if_b2f h5]
  have sel : ∀ x3 : Int32, (if pF (I 230) p 1 = nI 5 then am_X (am_cal (d + 5)) 207 37 [.ref 229, .null, .int day, .int x3, .int (nI p), .null, .null, .null] [.int (nI 1)] (mS I J) else am_X (am_cal (d + 5)) 207 37 [.ref 229, .null, .int day, .int x3, .int (nI p), .null, .null, .null] [.int (nI 0)] (mS I J)) = am_X (am_cal (d + 5)) 207 37 [.ref 229, .null, .int day, .int x3, .int (nI p), .null, .null, .null] [.int (b2 (pF (I 230) p 1 = nI 5))] (mS I J) := fun x3 => by
    by_cases h5 : pF (I 230) p 1 = nI 5
    · rw [if_pos h5, b2_t h5]
    · rw [if_neg h5, b2_f h5]
  rw [sel]
  by_cases h1 : eF (I 230) e 0 = nI 1
  · have h1' : I 230 (130 + 3 * e) = nI 1 := h1
    rw [if_pos h1', h1']
    obtain ⟨I', hF, hr⟩ := l53 I (nI 1) F2.rf (Or.inl rfl)
    refine ⟨I', hF, ?_⟩
    rw [hr]
    unfold mv
    rw [h1]
  · have h1' : ¬ I 230 (130 + 3 * e) = nI 1 := h1
    rw [if_neg h1']
    by_cases h2 : eF (I 230) e 0 = nI 2
    · have h2' : I 230 (130 + 3 * e) = nI 2 := h2
      have h5 : pF (I 230) p 1 = nI 5 := by
        obtain ⟨⟨p', hp', he', _, hs⟩, _⟩ := hW.eve he
        have : p' = p := by rw [hep] at he'; exact ((nI_eq (by omega) (by omega)).mp he').symm
        subst this
        rcases hs with ⟨hs, _⟩ | ⟨hs, _⟩ | ⟨_, _, hs⟩ | ⟨hs, _⟩ | ⟨hs, _⟩
        · rw [h2] at hs; exact absurd hs (by decide)
        · exact absurd hs h1
        · exact hs
        · rw [h2] at hs; exact absurd hs (by decide)
        · rw [h2] at hs; exact absurd hs (by decide)
      rw [if_pos h2', h2']
      obtain ⟨I', hF, hr⟩ := l53 I (nI 2) F2.rf (Or.inr ⟨rfl, h5⟩)
      refine ⟨I', hF, ?_⟩
      rw [hr]
      unfold mv
      rw [h2]
    · have h2' : ¬ I 230 (130 + 3 * e) = nI 2 := h2
      refine ⟨I, F2.rf, ?_⟩
      rw [if_neg h2', b2_f (fun h => by
        rcases h.1 with h | h
        · exact h1 h.1
        · exact h2 h.1)]
end B7
