/-! ===== shares: in 4^-11ths, by numbers ===== -/
def WH : Nat := 4194304
def upN (h : Nat → Nat) (x v : Nat) : Nat → Nat := fun y => if y = x then v else h y
theorem upN_e {h : Nat → Nat} {x v : Nat} : upN h x v x = v := if_pos rfl
theorem upN_n {h : Nat → Nat} {x v y : Nat} (hy : y ≠ x) : upN h x v y = h y := if_neg hy
/-- nobody has ended him ahead of this event -/
def stl (s : Rw) (q e : Nat) : Prop := ∀ e', e' < e → ¬ endAt s q e'
noncomputable def shS (s : Rw) (c e p q r k : Nat) (v : Int32) (h : Nat → Nat) : Nat → Nat :=
  if eF s e 0 = nI 3 then upN (upN (upN h p (min WH (h q + h r))) q 0) r 0
  else if eF s e 0 = nI 4 then @ite _ (isCp s p ∧ stl s q e) (Classical.propDecidable _) (upN (upN h q (min WH (h q + h p))) p 0) (upN h p 0)
  else @ite _ (mv s e p (cF s c 3)) (Classical.propDecidable _)
    (if v = nI 1 then upN (upN h p (h q)) q 0 else if v = nI 2 then upN (upN h p (h q / 4 * k)) q (h q - h q / 4 * k) else if v = nI 3 then upN h p (h q) else h) h
def okey (s : Rw) (c : Nat) : Int32 := if cF s c 0 = nI 0 then nI 0 else nI 1
noncomputable def shE (s : Rw) (c e : Nat) (h : Nat → Nat) : Nat → Nat :=
  shS s c e (eF s e 1).toNatClampNeg (pF s (eF s e 1).toNatClampNeg 2).toNatClampNeg (pF s (eF s e 1).toNatClampNeg 3).toNatClampNeg (pF s (eF s e 1).toNatClampNeg 6).toNatClampNeg (onE s (okey s c) e (eF s e 1).toNatClampNeg (cF s c 2) (nI c)) h
noncomputable def shR (s : Rw) (c : Nat) : Nat → Nat → (Nat → Nat) → (Nat → Nat)
  | 0, _, h => h
  | n + 1, e, h => shR s c n (e + 1) (shE s c e h)
noncomputable def shA (s : Rw) (c : Nat) : Nat → Nat := shR s c (nE s - (cF s c 4).toNatClampNeg) (cF s c 4).toNatClampNeg (upN (fun _ => 0) (cF s c 1).toNatClampNeg WH)
/-- has begun to count -/
def stt (s : Rw) (p e : Nat) : Prop := (byE s p < e ∧ ¬ isRs s p) ∨ ∃ e', e' < e ∧ eF s e' 0 = nI 2 ∧ eF s e' 1 = nI p
def myE (s : Rw) (p e : Nat) : Prop := eF s e 1 = nI p ∧ ((eF s e 0 = nI 1 ∧ ¬ isRs s p) ∨ (eF s e 0 = nI 2 ∧ isRs s p))
def Yt (s : Rw) (p e : Nat) : Prop := isCp s p ∧ ∀ e', e' < e → ¬ myE s p e'
noncomputable def cY (s : Rw) (e : Nat) : Nat → Nat
  | 0 => 0
  | n + 1 => cY s e n + @ite _ (Yt s n e) (Classical.propDecidable _) 1 0
theorem cY_t {s : Rw} {e n : Nat} (h : Yt s n e) : cY s e (n + 1) = cY s e n + 1 := congrArg (cY s e n + ·) (if_pos h)
theorem cY_f {s : Rw} {e n : Nat} (h : ¬ Yt s n e) : cY s e (n + 1) = cY s e n := congrArg (cY s e n + ·) (if_neg h)
theorem cY_le {s : Rw} {e : Nat} (h0 : ¬ isCp s 0) : ∀ n, cY s e (n + 1) ≤ n
  | 0 => by rw [cY_f (fun h => h0 h.1)]; exact Nat.le_refl _
  | n + 1 => by
    have := cY_le h0 (e := e) n
    by_cases h : Yt s (n + 1) e
    · rw [cY_t h]; omega
    · rw [cY_f h]; omega
theorem cY_same {s : Rw} {e e2 : Nat} : ∀ n, (∀ p, p < n → (Yt s p e ↔ Yt s p e2)) → cY s e n = cY s e2 n
  | 0, _ => rfl
  | n + 1, h => by
    have := cY_same n fun p hp => h p (by omega)
    by_cases hy : Yt s n e
    · rw [cY_t hy, cY_t ((h n (by omega)).mp hy), this]
    · rw [cY_f hy, cY_f (fun q => hy ((h n (by omega)).mpr q)), this]
theorem cY_one {s : Rw} {e e2 p : Nat} (hp : Yt s p e) (hp2 : ¬ Yt s p e2) : ∀ n, p < n → (∀ q, q < n → q ≠ p → (Yt s q e ↔ Yt s q e2)) → cY s e n = cY s e2 n + 1
  | 0, h, _ => by omega
  | n + 1, h, hs => by
    by_cases e0 : p = n
    · subst e0
      rw [cY_t hp, cY_f hp2, cY_same p fun q hq => hs q (by omega) (by omega)]
    · have := cY_one hp hp2 n (by omega) fun q hq => hs q (by omega)
      by_cases hy : Yt s n e
      · rw [cY_t hy, cY_t ((hs n (by omega) (by omega)).mp hy), this]
      · rw [cY_f hy, cY_f (fun q => hy ((hs n (by omega) (by omega)).mpr q)), this]
section D1
variable {s : Rw} {p q e c r k : Nat} {h : Nat → Nat}
/-- what holds of shares throughout -/
def shI (s : Rw) (e : Nat) (h : Nat → Nat) : Prop := (∀ x, h x ≤ WH) ∧ (∀ x, 4 ^ cY s e (nP s) ∣ h x) ∧ (∀ x, x < nP s → ¬ stt s x e → h x = 0)
theorem cp0 (hW : WF s) (h0 : 0 < nP s) : ¬ isCp s 0 := fun hc => by
  obtain ⟨q, hq, _⟩ := WFcq hW h0 hc
  omega
theorem cY_11 (hW : WF s) : cY s e (nP s) ≤ 11 := by
  have h12 := hW.nP.1
  cases hn : nP s with
  | zero => show 0 ≤ 11; omega
  | succ n =>
    have := cY_le (e := e) (cp0 hW (by omega)) n
    omega
theorem dvd_WH (hW : WF s) : 4 ^ cY s e (nP s) ∣ WH := by
  have := cY_11 (e := e) hW
  exact Nat.dvd_trans (Nat.pow_dvd_pow 4 this) (show 4 ^ 11 ∣ WH by decide)
theorem dvd_min {a b d : Nat} (ha : d ∣ a) (hb : d ∣ b) : d ∣ min a b := by
  rcases Nat.le_total a b with h | h
  · rw [Nat.min_eq_left h]; exact ha
  · rw [Nat.min_eq_right h]; exact hb
theorem dvd_up {x v d : Nat} (hh : ∀ y, d ∣ h y) (hv : d ∣ v) : ∀ y, d ∣ upN h x v y := fun y => by
  unfold upN
  split
  · exact hv
  · exact hh y
theorem le_up {x v : Nat} (hh : ∀ y, h y ≤ WH) (hv : v ≤ WH) : ∀ y, upN h x v y ≤ WH := fun y => by
  unfold upN
  split
  · exact hv
  · exact hh y
theorem stt_mono (hs : stt s p e) : stt s p (e + 1) := by
  rcases hs with ⟨h1, h2⟩ | ⟨e', h1, h2⟩
  · exact Or.inl ⟨by omega, h2⟩
  · exact Or.inr ⟨e', by omega, h2⟩
theorem WFev (hW : WF s) (he : e < nE s) : ∃ p, p < nP s ∧ eF s e 1 = nI p ∧ byE s p ≤ e ∧ ((eF s e 0 = nI 0 ∧ byE s p = e) ∨ (eF s e 0 = nI 1 ∧ byE s p = e) ∨ (eF s e 0 = nI 2 ∧ byE s p < e ∧ pF s p 1 = nI 5) ∨ (eF s e 0 = nI 3 ∧ byE s p = e ∧ pF s p 1 = nI 4) ∨ (eF s e 0 = nI 4 ∧ byE s p < e)) := (hW.eve he).1
theorem WFwk (hW : WF s) {e' : Nat} (he : e < nE s) (he' : e' < nE s) (h0 : eF s e 0 = nI 2) (h0' : eF s e' 0 = nI 2) (h1 : eF s e 1 = nI p) (h1' : eF s e' 1 = nI p) : e = e' := hW.2.2.2.2.1 e e' p he he' h0 h0' h1 h1'
/-- the copy's one it comes from has begun to count -/
theorem from_stt (hW : WF s) (hp : p < nP s) (hc : isCp s p) (hq : pF s p 2 = nI q) (hq2 : q < 12) (he : byE s p ≤ e) : stt s q e := by
  have h12 := hW.nP.1
  rcases (hW.per hp).1 with ⟨h1, _⟩ | ⟨_, ⟨q', hq', e2, hb, hw⟩, _⟩ | ⟨h1, _⟩
  · rcases hc with hc | hc | hc <;> rw [h1] at hc <;> exact absurd hc (by decide)
  · have e3 : q' = q := (nI_eq (by omega) (by omega)).mp (e2.symm.trans hq)
    subst e3
    by_cases h5 : pF s q' 1 = nI 5
    · obtain ⟨e', h1, h2, h3⟩ := hw h5
      exact Or.inr ⟨e', by omega, h2, h3⟩
    · exact Or.inl ⟨by omega, fun hr => h5 hr.1⟩
  · rcases hc with hc | hc | hc <;> rw [h1] at hc <;> exact absurd hc (by decide)
/-- who joins or comes counts for nothing before -/
theorem WFwho (hW : WF s) (he : e < nE s) (hp : p < nP s) (h1 : eF s e 1 = nI p) : byE s p ≤ e ∧ ((eF s e 0 = nI 0 ∧ byE s p = e) ∨ (eF s e 0 = nI 1 ∧ byE s p = e) ∨ (eF s e 0 = nI 2 ∧ byE s p < e ∧ pF s p 1 = nI 5) ∨ (eF s e 0 = nI 3 ∧ byE s p = e ∧ pF s p 1 = nI 4) ∨ (eF s e 0 = nI 4 ∧ byE s p < e)) := by
  have h12 := hW.nP.1
  obtain ⟨p', hp', e1, hb, hs⟩ := WFev hW he
  have : p' = p := (nI_eq (by omega) (by omega)).mp (e1.symm.trans h1)
  subst this
  exact ⟨hb, hs⟩
theorem stt_new (hW : WF s) (hp : p < nP s) (he : e ≤ nE s) (hb : byE s p = e) : ¬ stt s p e := by
  rintro (⟨h1, _⟩ | ⟨e', h1, h2, h3⟩)
  · omega
  · obtain ⟨hb2, hs⟩ := WFwho hW (show e' < nE s by omega) hp h3
    omega
theorem cY_mono : ∀ n, cY s (e + 1) n ≤ cY s e n
  | 0 => Nat.le_refl _
  | n + 1 => by
    have := cY_mono n
    by_cases hy : Yt s n (e + 1)
    · rw [cY_t hy, cY_t (show Yt s n e from ⟨hy.1, fun e' h => hy.2 e' (by omega)⟩)]
      omega
    · rw [cY_f hy]
      by_cases h2 : Yt s n e
      · rw [cY_t h2]; omega
      · rw [cY_f h2]; omega
theorem my_mv {day : Int32} (h1 : eF s e 1 = nI p) (hm : mv s e p day) : myE s p e := ⟨h1, hm.1⟩
theorem my_yt (hW : WF s) (he : e < nE s) (hp : p < nP s) (hm : myE s p e) : Yt s p e := by
  obtain ⟨h1, hm⟩ := hm
  obtain ⟨hb, hs⟩ := WFwho hW he hp h1
  refine ⟨?_, fun e' h' hm' => ?_⟩
  · rcases hm with ⟨h0, _⟩ | ⟨h0, _⟩
    · have hbe : byE s p = e := by
        rcases hs with ⟨hs, _⟩ | ⟨_, hs⟩ | ⟨hs, _⟩ | ⟨hs, _⟩ | ⟨hs, _⟩
        · rw [h0] at hs; exact absurd hs (by decide)
        · exact hs
        · rw [h0] at hs; exact absurd hs (by decide)
        · rw [h0] at hs; exact absurd hs (by decide)
        · rw [h0] at hs; exact absurd hs (by decide)
      rcases (hW.per hp).1 with ⟨_, _, _, h4⟩ | ⟨h4, _⟩ | ⟨_, _, h4⟩
      · rw [hbe, h0] at h4; exact absurd h4 (by decide)
      · exact h4
      · rw [hbe, h0] at h4; exact absurd h4 (by decide)
    · rcases hs with ⟨hs, _⟩ | ⟨hs, _⟩ | ⟨_, _, hs⟩ | ⟨hs, _⟩ | ⟨hs, _⟩
      · rw [h0] at hs; exact absurd hs (by decide)
      · rw [h0] at hs; exact absurd hs (by decide)
      · exact Or.inr (Or.inr hs)
      · rw [h0] at hs; exact absurd hs (by decide)
      · rw [h0] at hs; exact absurd hs (by decide)
  · obtain ⟨h1', hm'⟩ := hm'
    obtain ⟨hb', hs'⟩ := WFwho hW (show e' < nE s by omega) hp h1'
    rcases hm with ⟨h0, hr⟩ | ⟨h0, hr⟩ <;> rcases hm' with ⟨h0', hr'⟩ | ⟨h0', hr'⟩
    · have b1 : byE s p = e := by
        rcases hs with ⟨hs, hb⟩ | ⟨_, hs⟩ | ⟨hs, _⟩ | ⟨hs, hb, _⟩ | ⟨hs, _⟩
        · exact hb
        · exact hs
        · rw [h0] at hs; exact absurd hs (by decide)
        · exact hb
        · rw [h0] at hs; exact absurd hs (by decide)
      omega
    · exact hr hr'
    · exact hr' hr
    · have := WFwk hW he (show e' < nE s by omega) h0 h0' h1 h1'
      omega
theorem my_part (hW : WF s) (he : e < nE s) (hp : p < nP s) (hm : myE s p e) : cY s e (nP s) = cY s (e + 1) (nP s) + 1 := by
  have h12 := hW.nP.1
  refine cY_one (my_yt hW he hp hm) (fun h => h.2 e (by omega) hm) (nP s) hp fun q hq hqp => ⟨fun h => ⟨h.1, fun e' he' hm' => ?_⟩, fun h => ⟨h.1, fun e' he' => h.2 e' (by omega)⟩⟩
  by_cases ee : e' = e
  · subst ee
    exact hqp ((nI_eq (by omega) (by omega)).mp (hm'.1.symm.trans hm.1))
  · exact h.2 e' (by omega) hm'
theorem my_stt (hW : WF s) (he : e < nE s) (hp : p < nP s) (hm : myE s p e) : stt s p (e + 1) ∧ ¬ stt s p e := by
  obtain ⟨h1, hm⟩ := hm
  obtain ⟨hb, hs⟩ := WFwho hW he hp h1
  rcases hm with ⟨h0, hr⟩ | ⟨h0, hr⟩
  · have b1 : byE s p = e := by
      rcases hs with ⟨hs, hb⟩ | ⟨_, hs⟩ | ⟨hs, _⟩ | ⟨hs, hb, _⟩ | ⟨hs, _⟩
      · exact hb
      · exact hs
      · rw [h0] at hs; exact absurd hs (by decide)
      · exact hb
      · rw [h0] at hs; exact absurd hs (by decide)
    exact ⟨Or.inl ⟨by omega, hr⟩, stt_new hW hp (by omega) b1⟩
  · refine ⟨Or.inr ⟨e, by omega, h0, h1⟩, ?_⟩
    rintro (⟨_, h2⟩ | ⟨e', h2, h3, h4⟩)
    · exact h2 hr
    · have := WFwk hW he (show e' < nE s by omega) h0 h3 h1 h4
      omega
/-- the names of one event's persons -/
theorem shE_p (h1 : eF s e 1 = nI p) (hp : p < 12) : shE s c e h = shS s c e p (pF s p 2).toNatClampNeg (pF s p 3).toNatClampNeg (pF s p 6).toNatClampNeg (onE s (okey s c) e p (cF s c 2) (nI c)) h := by
  unfold shE
  rw [h1, nI_clamp (by omega)]
theorem shI_step (hW : WF s) (he : e < nE s) (hI : shI s e h) : shI s (e + 1) (shE s c e h) := by
  have h12 := hW.nP.1
  obtain ⟨i1, i2, i3⟩ := hI
  obtain ⟨p, hp, h1, hb, hs⟩ := WFev hW he
  have j2 : ∀ x, 4 ^ cY s (e + 1) (nP s) ∣ h x := fun x => Nat.dvd_trans (Nat.pow_dvd_pow 4 (cY_mono _)) (i2 x)
  have j3 : ∀ x, x < nP s → ¬ stt s x (e + 1) → h x = 0 := fun x hx hn => i3 x hx fun hh => hn (stt_mono hh)
  have jW := dvd_WH (e := e + 1) hW
  rw [shE_p h1 (by omega)]
  generalize onE s (okey s c) e p (cF s c 2) (nI c) = v
  generalize hqe : (pF s p 2).toNatClampNeg = q
  generalize hre : (pF s p 3).toNatClampNeg = r
  unfold shS
  by_cases s3 : eF s e 0 = nI 3
  · rw [if_pos s3]
    have hst : stt s p (e + 1) := by
      have : byE s p = e ∧ pF s p 1 = nI 4 := by
        rcases hs with ⟨hs, _⟩ | ⟨hs, _⟩ | ⟨hs, _⟩ | ⟨_, hs⟩ | ⟨hs, _⟩
        · rw [s3] at hs; exact absurd hs (by decide)
        · rw [s3] at hs; exact absurd hs (by decide)
        · rw [s3] at hs; exact absurd hs (by decide)
        · exact hs
        · rw [s3] at hs; exact absurd hs (by decide)
      exact Or.inl ⟨by omega, fun hr => by
        have h5 := hr.1
        rw [this.2] at h5
        exact absurd h5 (by decide)⟩
    refine ⟨le_up (le_up (le_up i1 (Nat.min_le_left _ _)) (Nat.zero_le _)) (Nat.zero_le _), dvd_up (dvd_up (dvd_up j2 (dvd_min jW (Nat.dvd_add (j2 q) (j2 r)))) (Nat.dvd_zero _)) (Nat.dvd_zero _), fun x hx hn => ?_⟩
    by_cases xr : x = r
    · subst xr; exact upN_e
    · rw [upN_n xr]
      by_cases xq : x = q
      · subst xq; exact upN_e
      · rw [upN_n xq]
        by_cases xp : x = p
        · subst xp; exact absurd hst hn
        · rw [upN_n xp]; exact j3 x hx hn
  · rw [if_neg s3]
    by_cases s4 : eF s e 0 = nI 4
    · rw [if_pos s4]
      by_cases hc : isCp s p ∧ stl s q e
      · rw [if_pos hc]
        obtain ⟨q', hq', e2⟩ := WFcq hW hp hc.1
        have eq : q' = q := by rw [← hqe, e2, nI_clamp (by omega)]
        subst eq
        have hsq := stt_mono (from_stt hW hp hc.1 e2 (by omega) (e := e) hb)
        refine ⟨le_up (le_up i1 (Nat.min_le_left _ _)) (Nat.zero_le _), dvd_up (dvd_up j2 (dvd_min jW (Nat.dvd_add (j2 q') (j2 p)))) (Nat.dvd_zero _), fun x hx hn => ?_⟩
        by_cases xp : x = p
        · subst xp; exact upN_e
        · rw [upN_n xp]
          by_cases xq : x = q'
          · subst xq; exact absurd hsq hn
          · rw [upN_n xq]; exact j3 x hx hn
      · rw [if_neg hc]
        refine ⟨le_up i1 (Nat.zero_le _), dvd_up j2 (Nat.dvd_zero _), fun x hx hn => ?_⟩
        by_cases xp : x = p
        · subst xp; exact upN_e
        · rw [upN_n xp]; exact j3 x hx hn
    · rw [if_neg s4]
      by_cases hm : mv s e p (cF s c 3)
      · rw [if_pos hm]
        have my := my_mv h1 hm
        have hst := (my_stt hW he hp my).1
        have hpt := my_part hW he hp my
        have hcp := (my_yt hW he hp my).1
        have hk : (pF s p 6).toNatClampNeg ≤ 3 := by
          rcases (hW.per hp).1 with ⟨h4, _⟩ | ⟨_, _, _, _, ⟨m, hm1, hm3, em⟩, _⟩ | ⟨h4, _⟩
          · rcases hcp with hc | hc | hc <;> rw [h4] at hc <;> exact absurd hc (by decide)
          · rw [em, nI_clamp (by omega)]; exact hm3
          · rcases hcp with hc | hc | hc <;> rw [h4] at hc <;> exact absurd hc (by decide)
        by_cases v1 : v = nI 1
        · rw [if_pos v1]
          refine ⟨le_up (le_up i1 (i1 q)) (Nat.zero_le _), dvd_up (dvd_up j2 (j2 q)) (Nat.dvd_zero _), fun x hx hn => ?_⟩
          by_cases xq : x = q
          · subst xq; exact upN_e
          · rw [upN_n xq]
            by_cases xp : x = p
            · subst xp; exact absurd hst hn
            · rw [upN_n xp]; exact j3 x hx hn
        · rw [if_neg v1]
          by_cases v2 : v = nI 2
          · rw [if_pos v2]
            have d4 : 4 ^ cY s (e + 1) (nP s) ∣ h q / 4 := by
              have := i2 q
              rw [hpt, Nat.pow_succ] at this
              obtain ⟨t, ht⟩ := this
              exact ⟨t, by rw [ht, Nat.mul_assoc, Nat.mul_comm 4 t, ← Nat.mul_assoc, Nat.mul_div_cancel _ (by decide)]⟩
            have l4 : h q / 4 * (pF s p 6).toNatClampNeg ≤ h q := by
              have : h q / 4 * (pF s p 6).toNatClampNeg ≤ h q / 4 * 4 := Nat.mul_le_mul_left _ (by omega)
              omega
            have lq := i1 q
            refine ⟨le_up (le_up i1 (by omega)) (by omega), dvd_up (dvd_up j2 (Nat.dvd_trans d4 (Nat.dvd_mul_right _ _))) (Nat.dvd_sub (j2 q) (Nat.dvd_trans d4 (Nat.dvd_mul_right _ _))), fun x hx hn => ?_⟩
            by_cases xq : x = q
            · subst xq
              rw [upN_e, j3 x hx hn]
              exact Nat.zero_sub _
            · rw [upN_n xq]
              by_cases xp : x = p
              · subst xp; exact absurd hst hn
              · rw [upN_n xp]; exact j3 x hx hn
          · rw [if_neg v2]
            by_cases v3 : v = nI 3
            · rw [if_pos v3]
              refine ⟨le_up i1 (i1 q), dvd_up j2 (j2 q), fun x hx hn => ?_⟩
              by_cases xp : x = p
              · subst xp; exact absurd hst hn
              · rw [upN_n xp]; exact j3 x hx hn
            · rw [if_neg v3]; exact ⟨i1, j2, j3⟩
      · rw [if_neg hm]; exact ⟨i1, j2, j3⟩
theorem WFcl (hW : WF s) (hc : c < nC s) : (cF s c 0 = nI 0 ∨ cF s c 0 = nI 1) ∧ (∃ v, 1 ≤ v ∧ v ≤ 9999 ∧ cF s c 2 = nI v) ∧ (∃ d, d ≤ 999 ∧ cF s c 3 = nI d) ∧ (∃ p e, p < nP s ∧ e ≤ nE s ∧ cF s c 1 = nI p ∧ cF s c 4 = nI e ∧ byE s p < e ∧ (pF s p 1 = nI 5 → ∃ k, k < e ∧ eF s k 0 = nI 2 ∧ eF s k 1 = nI p)) := hW.2.2.2.2.2.1 c hc
theorem shI_0 (hW : WF s) (hp : p < nP s) (hb : byE s p < e) (h5 : pF s p 1 = nI 5 → ∃ k, k < e ∧ eF s k 0 = nI 2 ∧ eF s k 1 = nI p) : shI s e (upN (fun _ => 0) p WH) := by
  refine ⟨le_up (fun _ => Nat.zero_le _) (Nat.le_refl _), dvd_up (fun _ => Nat.dvd_zero _) (dvd_WH hW), fun x hx hn => ?_⟩
  by_cases xp : x = p
  · subst xp
    refine absurd ?_ hn
    by_cases h : pF s x 1 = nI 5
    · exact Or.inr (h5 h)
    · exact Or.inl ⟨hb, fun hr => h hr.1⟩
  · exact upN_n xp
theorem shR_I (hW : WF s) : ∀ n e (h : Nat → Nat), e + n ≤ nE s → shI s e h → shI s (e + n) (shR s c n e h)
  | 0, e, h, _, hI => hI
  | n + 1, e, h, hn, hI => by
    have := shR_I hW n (e + 1) (shE s c e h) (by omega) (shI_step hW (by omega) hI)
    rw [show e + 1 + n = e + (n + 1) by omega] at this
    exact this
theorem shA_le (hW : WF s) (hc : c < nC s) (x : Nat) : shA s c x ≤ WH := by
  obtain ⟨_, _, _, p, e, hp, he, e1, e4, hb, h5⟩ := WFcl hW hc
  have h18 := hW.nE.1
  have h12 := hW.nP.1
  unfold shA
  rw [e1, e4, nI_clamp (by omega), nI_clamp (by omega)]
  exact (shR_I hW (nE s - e) e _ (by omega) (shI_0 hW hp hb h5)).1 x
end D1
