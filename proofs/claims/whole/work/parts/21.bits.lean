/-! ===== sets of small numbers as the bits of an int ===== -/
def bit (t : Int32) (r : Nat) : Bool := t.toBitVec.getLsbD r
theorem sh_amt : ∀ r, r < 32 → (nI r &&& 31).toBitVec.smod 32 = BitVec.ofNat 32 r := by decide +kernel
theorem bit_or {t u : Int32} {r : Nat} : bit (t ||| u) r = (bit t r || bit u r) := by
  unfold bit
  rw [Int32.toBitVec_or, BitVec.getLsbD_or]
theorem bit_and {t u : Int32} {r : Nat} : bit (t &&& u) r = (bit t r && bit u r) := by
  unfold bit
  rw [Int32.toBitVec_and, BitVec.getLsbD_and]
theorem bit_xor {t u : Int32} {r : Nat} : bit (t ^^^ u) r = (bit t r ^^ bit u r) := by
  unfold bit
  rw [Int32.toBitVec_xor, BitVec.getLsbD_xor]
theorem bit_n0 {r : Nat} : bit (nI 0) r = false := by
  unfold bit
  rw [show (nI 0).toBitVec = 0#32 from rfl, BitVec.getLsbD_zero]
theorem bit_m1 {r : Nat} (h : r < 32) : bit (Int32.ofInt (-1)) r = true := by
  unfold bit
  rw [show (Int32.ofInt (-1)).toBitVec = BitVec.allOnes 32 from by decide +kernel, BitVec.getLsbD_allOnes]
  exact decide_eq_true h
theorem bit_one : ∀ a, a < 32 → ∀ r, r < 32 → bit (nI 1 <<< (nI a &&& 31)) r = decide (a = r) := by decide +kernel
theorem bit_hi {t : Int32} {r : Nat} (h : 32 ≤ r) : bit t r = false := by
  unfold bit
  exact BitVec.getLsbD_of_ge _ _ h
theorem bit_ext {t u : Int32} (h : ∀ r, r < 32 → bit t r = bit u r) : t = u := by
  apply Int32.toBitVec_inj.mp
  apply BitVec.eq_of_getLsbD_eq
  intro i hi
  exact h i hi
/-- the bit at a place, as the two programs ask for it -/
theorem bit_at {t : Int32} {r : Nat} (hr : r < 32) : (t >>> (nI r &&& 31)) &&& nI 1 = (if bit t r then nI 1 else nI 0) := by
  apply bit_ext
  intro i hi
  rw [bit_and]
  have h1 : bit (nI 1) i = decide (i = 0) := by
    have : ∀ i, i < 32 → bit (nI 1) i = decide (i = 0) := by decide +kernel
    exact this i hi
  have h2 : bit (t >>> (nI r &&& 31)) 0 = bit t r := by
    show (t >>> (nI r &&& 31)).toBitVec.getLsbD 0 = _
    rw [Int32.toBitVec_shiftRight, sh_amt r hr, BitVec.sshiftRight_eq', BitVec.getLsbD_sshiftRight]
    have e : (BitVec.ofNat 32 r).toNat = r := by rw [BitVec.toNat_ofNat]; omega
    rw [e]
    simp only [Nat.add_zero, hr, if_true, show (0 : Nat) < 32 by decide, decide_true]
    unfold bit
    simp
  rw [h1]
  by_cases hi0 : i = 0
  · subst hi0
    rw [h2]
    cases bit t r <;> decide
  · rw [decide_eq_false hi0, Bool.and_false]
    have n1 : ∀ i, i < 32 → i ≠ 0 → bit (nI 1) i = false := by decide +kernel
    have n0 : bit (nI 0) i = false := bit_n0
    cases bit t r
    · exact n0.symm
    · exact (n1 i hi hi0).symm
theorem bit_at0 {t : Int32} {r : Nat} (hr : r < 32) : ((t >>> (nI r &&& 31)) &&& nI 1 = 0) = (bit t r = false) := by
  rw [bit_at hr]
  cases bit t r <;> exact propext ⟨fun h => by first | rfl | (exact absurd h (by decide)), fun h => by first | exact nI_0 | cases h⟩
theorem bit_at1 {t : Int32} {r : Nat} (hr : r < 32) : ((t >>> (nI r &&& 31)) &&& nI 1 = nI 1) = (bit t r = true) := by
  rw [bit_at hr]
  cases bit t r <;> exact propext ⟨fun h => by first | rfl | (exact absurd h (by decide)), fun h => by first | rfl | cases h⟩
