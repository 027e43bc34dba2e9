/-! ===== the model writes its row ===== -/
def rset (s : Rw) (k : Nat) (v : Int32) : Rw := fun j => if j = k then v else s j
theorem rset_e {s : Rw} {k : Nat} {v : Int32} : rset s k v k = v := if_pos rfl
theorem rset_n {s : Rw} {k j : Nat} {v : Int32} (h : j ≠ k) : rset s k v j = s j := if_neg h
def wR (I : mI) (s : Rw) : mI := fun a => if a = 230 then s else I a
theorem wR_r {I : mI} {s : Rw} : wR I s 230 = s := if_pos rfl
theorem wR_n {I : mI} {s : Rw} {a : Nat} (h : a ≠ 230) : wR I s a = I a := if_neg h
theorem wR_wR {I : mI} {s t : Rw} : wR (wR I s) t = wR I t := by
  funext a
  unfold wR
  by_cases h : a = 230
  · rw [if_pos h, if_pos h]
  · rw [if_neg h, if_neg h, if_neg h]
theorem wI_R {I : mI} {k : Nat} {v : Int32} : wI I 230 k v = wR I (rset (I 230) k v) := by
  funext a j
  unfold wI wR rset
  by_cases h : a = 230
  · subst h
    by_cases hj : j = k
    · rw [if_pos ⟨rfl, hj⟩, if_pos rfl, if_pos hj]
    · rw [if_neg (fun hh => hj hh.2), if_pos rfl, if_neg hj]
  · rw [if_neg (fun hh => h hh.1), if_neg h]
/-- an event behind all others -/
def evS (s : Rw) (sort x : Int32) : Rw := rset (rset (rset (rset s (130 + 3 * nE s) sort) (130 + 3 * nE s + 1) x) (130 + 3 * nE s + 2) (s 0)) 2 (nI (nE s + 1))
/-- a person behind all others -/
def peS (s : Rw) (n : Nat) (kind frm also by_ : Int32) : Rw := rset (rset (rset (rset (rset (rset (rset (rset (rset (rset s (10 + 10 * n) kind) (10 + 10 * n + 1) kind) (10 + 10 * n + 2) frm) (10 + 10 * n + 3) also) (10 + 10 * n + 4) (s 0)) (10 + 10 * n + 5) m9) (10 + 10 * n + 6) m9) (10 + 10 * n + 7) m9) (10 + 10 * n + 8) (nI 1)) (10 + 10 * n + 9) by_
def coS (s : Rw) (sort kind frm also : Int32) : Rw := evS (rset (peS s (nP s) kind frm also (nI (nE s))) 1 (nI (nP s + 1))) sort (nI (nP s))
section F2s
variable {I : mI} {J : mJ} {w p q e c d l b g r k : Nat} {s : Rw} {x y z key day sort : Int32}
theorem m159 (he : nE (I 230) < 18) (h2 : I 230 2 = nI (nE (I 230))) : am_cal (d + 1) 159 [.ref 229, .int sort, .int x] (mS I J) = some (none, mS (wR I (evS (I 230) sort x)) J) := by
  generalize hn : nE (I 230) = e at he h2
  have a0 : nI 130 + nI 3 * nI e = nI (130 + 3 * e) := by rw [pk_mul, nI_add]
  have a1 : nI (130 + 3 * e) + nI 1 = nI (130 + 3 * e + 1) := nI_add _ _
  have a2 : nI (130 + 3 * e) + nI 2 = nI (130 + 3 * e + 2) := nI_add _ _
  have i0c : (nI (130 + 3 * e)).toNatClampNeg = 130 + 3 * e := nI_clamp (by omega)
  have i0z : (nI (130 + 3 * e) < 0) = False := n_ge0 (by omega)
  have i0l : (546 ≤ 130 + 3 * e) = False := n_lef (by omega)
  have i1c : (nI (130 + 3 * e + 1)).toNatClampNeg = 130 + 3 * e + 1 := nI_clamp (by omega)
  have i1z : (nI (130 + 3 * e + 1) < 0) = False := n_ge0 (by omega)
  have i1l : (546 ≤ 130 + 3 * e + 1) = False := n_lef (by omega)
  have i2c : (nI (130 + 3 * e + 2)).toNatClampNeg = 130 + 3 * e + 2 := nI_clamp (by omega)
  have i2z : (nI (130 + 3 * e + 2) < 0) = False := n_ge0 (by omega)
  have i2l : (546 ≤ 130 + 3 * e + 2) = False := n_lef (by omega)
  have q00 : ∀ (t : Rw) (v : Int32), rset t (130 + 3 * e) v 0 = t 0 := fun _ _ => rset_n (by omega)
  have q01 : ∀ (t : Rw) (v : Int32), rset t (130 + 3 * e) v 1 = t 1 := fun _ _ => rset_n (by omega)
  have q02 : ∀ (t : Rw) (v : Int32), rset t (130 + 3 * e) v 2 = t 2 := fun _ _ => rset_n (by omega)
  have q10 : ∀ (t : Rw) (v : Int32), rset t (130 + 3 * e + 1) v 0 = t 0 := fun _ _ => rset_n (by omega)
  have q11 : ∀ (t : Rw) (v : Int32), rset t (130 + 3 * e + 1) v 1 = t 1 := fun _ _ => rset_n (by omega)
  have q12 : ∀ (t : Rw) (v : Int32), rset t (130 + 3 * e + 1) v 2 = t 2 := fun _ _ => rset_n (by omega)
  have q20 : ∀ (t : Rw) (v : Int32), rset t (130 + 3 * e + 2) v 0 = t 0 := fun _ _ => rset_n (by omega)
  have q21 : ∀ (t : Rw) (v : Int32), rset t (130 + 3 * e + 2) v 1 = t 1 := fun _ _ => rset_n (by omega)
  have q22 : ∀ (t : Rw) (v : Int32), rset t (130 + 3 * e + 2) v 2 = t 2 := fun _ _ => rset_n (by omega)
  rw [c_159 lc_229]
  simp only [h2, a0, a1, a2, i0c, i0z, i0l, i1c, i1z, i1l, i2c, i2z, i2l, wI_R, wR_r, wR_wR, q00, q01, q02, q10, q11, q12, q20, q21, q22, n_lef (show 2 < 546 by decide), n_lef (show 0 < 546 by decide), nI_add, lc_229, lr_229_0, lc_230, ll_230, bq_s, mS_c, mS_l, mS_r, mS_i, mS_j, mS_pi, mS_pj, lt_st, bq_s, bV_s, bI_s, bJ_s, bA_s, nz_0, nc_0, nz_1, nc_1, nz_2, nc_2, nz_3, nc_3, nz_4, nc_4, nz_5, nc_5, nz_6, nc_6, nz_7, nc_7, nz_8, nc_8, nz_9, nc_9, nz_10, nc_10, nz_11, nc_11, nz_12, nc_12, if_true, if_false, eq_self, true_and, and_true, false_or, or_false, true_or, or_true, false_and, and_false, not_true, not_false_eq_true, ne_eq, ite_self, ite_not, ↓reduceIte]
  unfold evS
  rw [hn]
theorem m162 (hP : nP (I 230) < 12) (hE : nE (I 230) < 18) (h1 : I 230 1 = nI (nP (I 230))) (h2 : I 230 2 = nI (nE (I 230))) {kind frm also : Int32} : am_cal (d + 2) 162 [.ref 229, .int sort, .int kind, .int frm, .int also] (mS I J) = some (some (.int (nI (nP (I 230)))), mS (wR I (coS (I 230) sort kind frm also)) J) := by
  generalize hn : nP (I 230) = n at hP h1
  generalize hn2 : nE (I 230) = e at hE h2
  have b0 : nI 10 + nI 10 * nI n = nI (10 + 10 * n) := by rw [pk_mul, nI_add]
  have ad : ∀ j, nI (10 + 10 * n) + nI j = nI (10 + 10 * n + j) := fun j => nI_add _ _
  have i0c : (nI (10 + 10 * n)).toNatClampNeg = 10 + 10 * n := nI_clamp (by omega)
  have i0z : (nI (10 + 10 * n) < 0) = False := n_ge0 (by omega)
  have i0l : (546 ≤ 10 + 10 * n) = False := n_lef (by omega)
  have i1c : (nI (10 + 10 * n + 1)).toNatClampNeg = 10 + 10 * n + 1 := nI_clamp (by omega)
  have i1z : (nI (10 + 10 * n + 1) < 0) = False := n_ge0 (by omega)
  have i1l : (546 ≤ 10 + 10 * n + 1) = False := n_lef (by omega)
  have i2c : (nI (10 + 10 * n + 2)).toNatClampNeg = 10 + 10 * n + 2 := nI_clamp (by omega)
  have i2z : (nI (10 + 10 * n + 2) < 0) = False := n_ge0 (by omega)
  have i2l : (546 ≤ 10 + 10 * n + 2) = False := n_lef (by omega)
  have i3c : (nI (10 + 10 * n + 3)).toNatClampNeg = 10 + 10 * n + 3 := nI_clamp (by omega)
  have i3z : (nI (10 + 10 * n + 3) < 0) = False := n_ge0 (by omega)
  have i3l : (546 ≤ 10 + 10 * n + 3) = False := n_lef (by omega)
  have i4c : (nI (10 + 10 * n + 4)).toNatClampNeg = 10 + 10 * n + 4 := nI_clamp (by omega)
  have i4z : (nI (10 + 10 * n + 4) < 0) = False := n_ge0 (by omega)
  have i4l : (546 ≤ 10 + 10 * n + 4) = False := n_lef (by omega)
  have i5c : (nI (10 + 10 * n + 5)).toNatClampNeg = 10 + 10 * n + 5 := nI_clamp (by omega)
  have i5z : (nI (10 + 10 * n + 5) < 0) = False := n_ge0 (by omega)
  have i5l : (546 ≤ 10 + 10 * n + 5) = False := n_lef (by omega)
  have i6c : (nI (10 + 10 * n + 6)).toNatClampNeg = 10 + 10 * n + 6 := nI_clamp (by omega)
  have i6z : (nI (10 + 10 * n + 6) < 0) = False := n_ge0 (by omega)
  have i6l : (546 ≤ 10 + 10 * n + 6) = False := n_lef (by omega)
  have i7c : (nI (10 + 10 * n + 7)).toNatClampNeg = 10 + 10 * n + 7 := nI_clamp (by omega)
  have i7z : (nI (10 + 10 * n + 7) < 0) = False := n_ge0 (by omega)
  have i7l : (546 ≤ 10 + 10 * n + 7) = False := n_lef (by omega)
  have i8c : (nI (10 + 10 * n + 8)).toNatClampNeg = 10 + 10 * n + 8 := nI_clamp (by omega)
  have i8z : (nI (10 + 10 * n + 8) < 0) = False := n_ge0 (by omega)
  have i8l : (546 ≤ 10 + 10 * n + 8) = False := n_lef (by omega)
  have i9c : (nI (10 + 10 * n + 9)).toNatClampNeg = 10 + 10 * n + 9 := nI_clamp (by omega)
  have i9z : (nI (10 + 10 * n + 9) < 0) = False := n_ge0 (by omega)
  have i9l : (546 ≤ 10 + 10 * n + 9) = False := n_lef (by omega)
  have q00 : ∀ (t : Rw) (v : Int32), rset t (10 + 10 * n) v 0 = t 0 := fun _ _ => rset_n (by omega)
  have q01 : ∀ (t : Rw) (v : Int32), rset t (10 + 10 * n) v 1 = t 1 := fun _ _ => rset_n (by omega)
  have q02 : ∀ (t : Rw) (v : Int32), rset t (10 + 10 * n) v 2 = t 2 := fun _ _ => rset_n (by omega)
  have q10 : ∀ (t : Rw) (v : Int32), rset t (10 + 10 * n + 1) v 0 = t 0 := fun _ _ => rset_n (by omega)
  have q11 : ∀ (t : Rw) (v : Int32), rset t (10 + 10 * n + 1) v 1 = t 1 := fun _ _ => rset_n (by omega)
  have q12 : ∀ (t : Rw) (v : Int32), rset t (10 + 10 * n + 1) v 2 = t 2 := fun _ _ => rset_n (by omega)
  have q20 : ∀ (t : Rw) (v : Int32), rset t (10 + 10 * n + 2) v 0 = t 0 := fun _ _ => rset_n (by omega)
  have q21 : ∀ (t : Rw) (v : Int32), rset t (10 + 10 * n + 2) v 1 = t 1 := fun _ _ => rset_n (by omega)
  have q22 : ∀ (t : Rw) (v : Int32), rset t (10 + 10 * n + 2) v 2 = t 2 := fun _ _ => rset_n (by omega)
  have q30 : ∀ (t : Rw) (v : Int32), rset t (10 + 10 * n + 3) v 0 = t 0 := fun _ _ => rset_n (by omega)
  have q31 : ∀ (t : Rw) (v : Int32), rset t (10 + 10 * n + 3) v 1 = t 1 := fun _ _ => rset_n (by omega)
  have q32 : ∀ (t : Rw) (v : Int32), rset t (10 + 10 * n + 3) v 2 = t 2 := fun _ _ => rset_n (by omega)
  have q40 : ∀ (t : Rw) (v : Int32), rset t (10 + 10 * n + 4) v 0 = t 0 := fun _ _ => rset_n (by omega)
  have q41 : ∀ (t : Rw) (v : Int32), rset t (10 + 10 * n + 4) v 1 = t 1 := fun _ _ => rset_n (by omega)
  have q42 : ∀ (t : Rw) (v : Int32), rset t (10 + 10 * n + 4) v 2 = t 2 := fun _ _ => rset_n (by omega)
  have q50 : ∀ (t : Rw) (v : Int32), rset t (10 + 10 * n + 5) v 0 = t 0 := fun _ _ => rset_n (by omega)
  have q51 : ∀ (t : Rw) (v : Int32), rset t (10 + 10 * n + 5) v 1 = t 1 := fun _ _ => rset_n (by omega)
  have q52 : ∀ (t : Rw) (v : Int32), rset t (10 + 10 * n + 5) v 2 = t 2 := fun _ _ => rset_n (by omega)
  have q60 : ∀ (t : Rw) (v : Int32), rset t (10 + 10 * n + 6) v 0 = t 0 := fun _ _ => rset_n (by omega)
  have q61 : ∀ (t : Rw) (v : Int32), rset t (10 + 10 * n + 6) v 1 = t 1 := fun _ _ => rset_n (by omega)
  have q62 : ∀ (t : Rw) (v : Int32), rset t (10 + 10 * n + 6) v 2 = t 2 := fun _ _ => rset_n (by omega)
  have q70 : ∀ (t : Rw) (v : Int32), rset t (10 + 10 * n + 7) v 0 = t 0 := fun _ _ => rset_n (by omega)
  have q71 : ∀ (t : Rw) (v : Int32), rset t (10 + 10 * n + 7) v 1 = t 1 := fun _ _ => rset_n (by omega)
  have q72 : ∀ (t : Rw) (v : Int32), rset t (10 + 10 * n + 7) v 2 = t 2 := fun _ _ => rset_n (by omega)
  have q80 : ∀ (t : Rw) (v : Int32), rset t (10 + 10 * n + 8) v 0 = t 0 := fun _ _ => rset_n (by omega)
  have q81 : ∀ (t : Rw) (v : Int32), rset t (10 + 10 * n + 8) v 1 = t 1 := fun _ _ => rset_n (by omega)
  have q82 : ∀ (t : Rw) (v : Int32), rset t (10 + 10 * n + 8) v 2 = t 2 := fun _ _ => rset_n (by omega)
  have q90 : ∀ (t : Rw) (v : Int32), rset t (10 + 10 * n + 9) v 0 = t 0 := fun _ _ => rset_n (by omega)
  have q91 : ∀ (t : Rw) (v : Int32), rset t (10 + 10 * n + 9) v 1 = t 1 := fun _ _ => rset_n (by omega)
  have q92 : ∀ (t : Rw) (v : Int32), rset t (10 + 10 * n + 9) v 2 = t 2 := fun _ _ => rset_n (by omega)
  have m9e : Int32.ofInt (-9) = m9 := rfl
  have ez : nI (10 + 10 * n + 0) = nI (10 + 10 * n) := rfl
  have r1 : ∀ (t : Rw) (v : Int32), rset t 1 v 2 = t 2 := fun _ _ => rset_n (by decide)
  have hs : nE (rset (peS (I 230) n kind frm also (nI e)) 1 (nI (n + 1))) = e := by
    unfold nE peS
    rw [r1, q92, q82, q72, q62, q52, q42, q32, q22, q12, q02, h2, nI_clamp (by omega)]
  have h159 := m159 (d := d) (I := wR I (rset (peS (I 230) n kind frm also (nI e)) 1 (nI (n + 1)))) (J := J) (sort := sort) (x := nI n) (by rw [wR_r, hs]; exact hE) (by
    rw [wR_r, hs]
    unfold peS
    rw [r1, q92, q82, q72, q62, q52, q42, q32, q22, q12, q02, h2])
  rw [wR_r, wR_wR] at h159
  have hco : coS (I 230) sort kind frm also = evS (rset (peS (I 230) n kind frm also (nI e)) 1 (nI (n + 1))) sort (nI n) := by
    unfold coS
    rw [hn, hn2]
  rw [hco]
  unfold peS at h159 ⊢
  rw [c_162 lc_229]
  simp only [h1, h2, b0, ad, ez, i0c, i0z, i0l, i1c, i1z, i1l, i2c, i2z, i2l, i3c, i3z, i3l, i4c, i4z, i4l, i5c, i5z, i5l, i6c, i6z, i6l, i7c, i7z, i7l, i8c, i8z, i8l, i9c, i9z, i9l, wI_R, wR_r, wR_wR, q00, q01, q02, q10, q11, q12, q20, q21, q22, q30, q31, q32, q40, q41, q42, q50, q51, q52, q60, q61, q62, q70, q71, q72, q80, q81, q82, q90, q91, q92, n_lef (show 2 < 546 by decide), n_lef (show 1 < 546 by decide), n_lef (show 0 < 546 by decide), m9e, nI_add, h159, lc_229, lr_229_0, lc_230, ll_230, bq_s, mS_c, mS_l, mS_r, mS_i, mS_j, mS_pi, mS_pj, lt_st, bq_s, bV_s, bI_s, bJ_s, bA_s, nz_0, nc_0, nz_1, nc_1, nz_2, nc_2, nz_3, nc_3, nz_4, nc_4, nz_5, nc_5, nz_6, nc_6, nz_7, nc_7, nz_8, nc_8, nz_9, nc_9, nz_10, nc_10, nz_11, nc_11, nz_12, nc_12, if_true, if_false, eq_self, true_and, and_true, false_or, or_false, true_or, or_true, false_and, and_false, not_true, not_false_eq_true, ne_eq, ite_self, ite_not, ↓reduceIte]
end F2s
