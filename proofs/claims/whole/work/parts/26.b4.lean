/-! ===== the model's law; the facts ===== -/
def pl (g : Rw) : Nat → List Int32
  | 0 => []
  | d + 1 => g d :: pl g d
theorem pl_ag {g h : Rw} : ∀ {d : Nat}, (∀ k, k < d → h k = g k) → pl h d = pl g d
  | 0, _ => rfl
  | d + 1, e => by
    show h d :: pl h d = g d :: pl g d
    rw [e d (by omega), pl_ag (d := d) fun k hk => e k (by omega)]
/-- cells that differ at one place alone -/
abbrev F1 (b : Nat) (I' I : mI) : Prop := ∀ a, a ≠ b → I' a = I a
abbrev F2 (b c : Nat) (I' I : mI) : Prop := ∀ a, a ≠ b → a ≠ c → I' a = I a
theorem wI_F1 {I : mI} {a k : Nat} {v : Int32} : F1 a (wI I a k v) I := fun b hb => funext fun _ => wI_ne hb
theorem wfk_le (s : Rw) : ∀ (n k q : Nat), wfk s n k q → q ≤ n + 1
  | 0, _, _, h => by
    have h : _ = 1 := h
    omega
  | n + 1, k, q, h => by
    rcases h with ⟨_, _, _, h⟩ | ⟨_, _, h⟩ | ⟨_, _, _, h⟩
    · have := wfk_le s n _ _ h; omega
    · have := wfk_le s n _ _ h; omega
    · have := wfk_le s n _ _ h; omega
section B4
variable {I : mI} {J : mJ} {w p q e c d l b : Nat} {s : Rw} {x key : Int32}
theorem m195 {v a b : Int32} : am_cal (d + 1) 195 [.int v, .int a, .int b] (mS I J) = some (some (.int (bo2 v a b)), mS I J) := by
  rw [c_195]
  unfold bo2
  simp only [r_ite]
theorem m196l (s : Rw) (f : Rw) (J : mJ) (c a b : Nat) (hc : c < 10) (hb : b ≤ 200) (h4 : s (296 + 5 * c + 4) = nI b) :
    ∀ (n k q : Nat) (I : mI), I 230 = s → I 236 = f → k + n = b → wfk s n k q → ∃ I', F1 237 I' I ∧ mrun s f n k (pl (I 237) q) = [I' 237 0] ∧
      am_X (am_cal (d + 1)) 196 15 [.ref 229, .null, .int (nI (296 + 5 * c)), .int (nI q), .int (nI k), .null] [] (mS I J) = some (some (.int (if s (296 + 5 * c + 2) = 0 then nI 1 else if I' 237 0 = nI 1 then nI 1 else nI 0)), mS I' J) := by
  intro n
  induction n with
  | zero =>
    intro k q I hs hf hk hw
    have hq : q = 1 := hw
    subst hq
    refine ⟨I, fun _ _ => rfl, rfl, ?_⟩
    rw [e_196_15]
    simp only [lc_229, lr_229_0, lr_229_15, lc_230, ll_230, lc_237, ll_237, hs, hf, bq_s, if_true, if_false, eq_self, true_and, and_true, false_or, or_false, true_or, or_true, false_and, and_false, not_true, not_false_eq_true, ne_eq, ite_self, ite_not, ↓reduceIte]
    simp (disch := first | assumption | omega) only [nI_add, nI_clamp, n_ge0, n_lt, n_eq, pk_mul, n_lef, n_let, n_ltf, n_ltt, Nat.reduceLeDiff, Nat.reduceEqDiff, Nat.reduceAdd, Nat.reduceMul, Nat.reduceSub, if_true, if_false, eq_self, true_and, and_true, false_or, or_false, true_or, or_true, false_and, and_false, not_true, not_false_eq_true, ne_eq, ite_self, ite_not, ↓reduceIte, h4, hs, r_ite]
  | succ n ih =>
    intro k q I hs hf hk hw
    have st : ∀ (q' : Nat) (I1 : mI), F1 237 I1 I → wfk s n (k + 1) q' → pl (I1 237) q' = mst s f k (pl (I 237) q) → ∃ I', F1 237 I' I ∧ mrun s f (n + 1) k (pl (I 237) q) = [I' 237 0] ∧ am_X (am_cal (d + 1)) 196 15 [.ref 229, .null, .int (nI (296 + 5 * c)), .int (nI q'), .int (nI (k + 1)), .null] [] (mS I1 J) = some (some (.int (if s (296 + 5 * c + 2) = 0 then nI 1 else if I' 237 0 = nI 1 then nI 1 else nI 0)), mS I' J) := by
      intro q' I1 h1 hw1 hp1
      obtain ⟨I', h2, h3, h5⟩ := ih (k + 1) q' I1 (by rw [h1 230 (by omega), hs]) (by rw [h1 236 (by omega), hf]) (by omega) hw1
      refine ⟨I', fun a ha => by rw [h2 a ha, h1 a ha], ?_, h5⟩
      rw [← h3, hp1]
      rfl
    rw [e_196_15]
    simp only [lc_229, lr_229_0, lr_229_14, lr_229_15, lc_230, ll_230, lc_236, ll_236, lc_237, ll_237, hs, hf, bq_s, if_true, if_false, eq_self, true_and, and_true, false_or, or_false, true_or, or_true, false_and, and_false, not_true, not_false_eq_true, ne_eq, ite_self, ite_not, ↓reduceIte]
    have hk1 : nI (296 + 5 * c) + nI 4 = nI (296 + 5 * c + 4) := nI_add _ _
    have hk2 : nI 346 + nI k = nI (346 + k) := nI_add _ _
    rw [hk1, hk2, in_r (by omega) (by omega), nI_clamp (by omega), h4, if_pos (nI_lt (show k < b by omega) (by omega)), in_r (by omega) (by omega), nI_clamp (by omega)]
    rcases hw with ⟨h1, h2, h3, h5⟩ | ⟨h1, h2, h3⟩ | ⟨h1, h2, hq2, h3⟩
    · rw [if_pos h1]
      have pu : ∀ v : Int32, pl (wI I 237 q v 237) (q + 1) = v :: pl (I 237) q := fun v => by
        show wI I 237 q v 237 q :: pl _ q = _
        rw [wI_eq, pl_ag (g := I 237) fun j hj => wI_nk (by omega)]
      by_cases h6 : s (346 + k) < nI 10000
      · rw [if_pos h6, in_r h3 (by omega), nI_clamp (by omega)]
        simp only [mS_c, mS_l, mS_r, mS_i, mS_j, mS_pi, mS_pj, lt_st, bq_s, bV_s, bI_s, bJ_s, bA_s, nI_add]
        exact st (q + 1) _ wI_F1 h5 (by rw [pu]; unfold mst; rw [if_pos h1, if_pos h6])
      · rcases h2 with h2 | ⟨j, hj, h2⟩
        · exact absurd h2 h6
        · have h7 : nI (10000 + j) - nI 10000 = nI j := by rw [n_sub (by omega)]; exact congrArg nI (by omega)
          rw [if_neg h6, h2, h7, in_r hj (by omega), in_r h3 (by omega), nI_clamp (by omega), nI_clamp (show j < _ by omega)]
          simp only [mS_c, mS_l, mS_r, mS_i, mS_j, mS_pi, mS_pj, lt_st, bq_s, bV_s, bI_s, bJ_s, bA_s, nI_add]
          refine st (q + 1) _ wI_F1 h5 ?_
          rw [pu]
          unfold mst
          rw [if_pos h1, if_neg h6, h2, h7, nI_clamp (by omega)]
    · obtain ⟨q, rfl⟩ : ∃ r, q = r + 1 := ⟨q - 1, by omega⟩
      have hq : q < 200 := by
        have := wfk_le s n (k + 1) (q + 1) h3
        omega
      have hn : ¬ s (346 + k) < nI 10010 := by rw [h1]; decide +kernel
      rw [if_neg hn, if_pos h1, n_pred, in_r hq (by omega), in_r hq (by omega), nI_clamp (by omega)]
      simp only [mS_c, mS_l, mS_r, mS_i, mS_j, mS_pi, mS_pj, lt_st, bq_s, bV_s, bI_s, bJ_s, bA_s, nI_add]
      refine st (q + 1) _ wI_F1 h3 ?_
      show wI I 237 q _ 237 q :: pl _ q = _
      rw [wI_eq, pl_ag (g := I 237) fun j hj => wI_nk (by omega)]
      unfold mst
      rw [if_neg hn, if_pos h1]
      rfl
    · obtain ⟨q, rfl⟩ : ∃ r, q = r + 2 := ⟨q - 2, by omega⟩
      have hn : ¬ s (346 + k) < nI 10010 := by rcases h1 with h1 | h1 | h1 | h1 | h1 <;> rw [h1] <;> decide +kernel
      have hm : ¬ s (346 + k) = nI 10010 := by rcases h1 with h1 | h1 | h1 | h1 | h1 <;> rw [h1] <;> decide +kernel
      rw [if_neg hn, if_neg hm, show nI (q + 2) - nI 1 = nI (q + 1) from n_pred, show nI (q + 1) - nI 1 = nI q from n_pred, in_r (by omega) (by omega), in_r (by omega) (by omega), nI_clamp (by omega), nI_clamp (show q + 1 < _ by omega), m195, bI_s]
      simp only [mS_c, mS_l, mS_r, mS_i, mS_j, mS_pi, mS_pj, lt_st, bq_s, bV_s, bI_s, bJ_s, bA_s, lc_237, ll_237, if_true, if_false, eq_self, true_and, and_true, false_or, or_false, true_or, or_true, false_and, and_false, not_true, not_false_eq_true, ne_eq, ite_self, ite_not, ↓reduceIte]
      rw [in_r2 (by omega) (by omega), nI_add]
      refine st (q + 1) _ wI_F1 h3 ?_
      show wI I 237 q _ 237 q :: pl _ q = _
      rw [wI_eq, pl_ag (g := I 237) fun j hj => wI_nk (by omega)]
      unfold mst
      rw [if_neg hn, if_neg hm]
      rfl
theorem m196 (hW : WF (I 230)) (hc : c < nL (I 230)) : ∃ I', F1 237 I' I ∧ am_cal (d + 2) 196 [.ref 229, .int (nI c)] (mS I J) = some (some (.int (b2 (hld (I 230) c (I 236)))), mS I' J) := by
  obtain ⟨a, b, hab, hb, ha4, hb4, hk⟩ := (hW.2.2.2.2.2.2.2.2 c hc).1
  have hc10 := hW.nL.1
  have hb4' := hb4
  have ha4' := ha4
  have hb4 : I 230 (296 + 5 * c + 4) = nI b := hb4
  have ha4 : I 230 (296 + 5 * c + 3) = nI a := ha4
  have op : am_cal (d + 2) 196 [.ref 229, .int (nI c)] (mS I J) = am_X (am_cal (d + 1)) 196 15 [.ref 229, .null, .int (nI (296 + 5 * c)), .int (nI 0), .int (nI a), .null] [] (mS I J) := by
    rw [c_196 lc_229]
    simp only [lc_229, lr_229_0, lc_230, ll_230, bq_s, if_true, if_false, eq_self, true_and, and_true, false_or, or_false, true_or, or_true, false_and, and_false, not_true, not_false_eq_true, ne_eq, ite_self, ite_not, ↓reduceIte]
    rw [pk_mul, nI_add, nI_add, in_r (by omega) (by omega), nI_clamp (by omega), ha4]
  rcases hk with ⟨h2, rfl⟩ | ⟨h2, hk⟩
  · refine ⟨I, fun _ _ => rfl, ?_⟩
    have h2' := h2
    have h2 : I 230 (296 + 5 * c + 2) = nI 0 := h2
    rw [op, e_196_15]
    simp only [lc_229, lr_229_0, lc_230, ll_230, bq_s, if_true, if_false, eq_self, true_and, and_true, false_or, or_false, true_or, or_true, false_and, and_false, not_true, not_false_eq_true, ne_eq, ite_self, ite_not, ↓reduceIte]
    rw [nI_add, in_r (by omega) (by omega), nI_clamp (by omega), hb4, if_neg (nI_nlt (Nat.le_refl _) (by omega)), nI_add, in_r (by omega) (by omega), nI_clamp (by omega), h2, if_pos nI_0, b2_t (show hld (I 230) c (I 236) from Or.inl h2')]
  · obtain ⟨I', hF, hm, hr⟩ := m196l (d := d) (I 230) (I 236) J c a b (by omega) hb hb4 (b - a) a 0 I rfl rfl (by omega) hk
    refine ⟨I', hF, ?_⟩
    have h2' := h2
    have h2 : I 230 (296 + 5 * c + 2) = nI 1 := h2
    rw [op, hr, h2, if_neg (by decide)]
    have e : hld (I 230) c (I 236) = (I' 237 0 = nI 1) := by
      unfold hld
      rw [hb4', ha4', nI_clamp (by omega), nI_clamp (by omega)]
      rw [show pl (I 237) 0 = [] from rfl] at hm
      rw [hm]
      show (_ ∨ some (I' 237 0) = some (nI 1)) = _
      exact propext ⟨fun h => by
        rcases h with h | h
        · rw [h2'] at h; exact absurd h (by decide)
        · exact Option.some.inj h, fun h => Or.inr (congrArg some h)⟩
    rw [e, b2_if]
theorem m197 (hW : WF (I 230)) : ∃ I', F1 237 I' I ∧ am_cal (d + 3) 197 [.ref 229, .int key] (mS I J) = some (some (.int (lawV (I 230) key (I 236))), mS I' J) := by
  have lp : ∀ c, c ≤ nL (I 230) → ∀ I1 : mI, F1 237 I1 I → ∃ I', F1 237 I' I ∧ am_X (am_cal (d + 2)) 197 7 [.ref 229, .int key, .int (nI c - nI 1)] [] (mS I1 J) = some (some (.int (lawU (I 230) key (I 236) c)), mS I' J) := by
    intro c
    induction c with
    | zero =>
      intro hc I1 h1
      refine ⟨I1, h1, ?_⟩
      rw [e_197_7]
      simp only [neg1, if_true, if_false, eq_self, true_and, and_true, false_or, or_false, true_or, or_true, false_and, and_false, not_true, not_false_eq_true, ne_eq, ite_self, ite_not, ↓reduceIte, lawU]
    | succ c ih =>
      intro hc I1 h1
      have hn := hW.nL.1
      have e0 := h1 230 (by omega)
      have e6 := h1 236 (by omega)
      obtain ⟨I2, h2, hr⟩ := m196 (d := d) (J := J) (I := I1) (c := c) (by rw [e0]; exact hW) (by rw [e0]; omega)
      obtain ⟨I3, h3, hr3⟩ := ih (by omega) I2 (fun a ha => by rw [h2 a ha, h1 a ha])
      obtain ⟨I4, h4, hr4⟩ := ih (by omega) I1 h1
      rw [e_197_7, n_pred]
      simp only [lc_229, lr_229_0, lc_230, ll_230, bq_s, if_true, if_false, eq_self, true_and, and_true, false_or, or_false, true_or, or_true, false_and, and_false, not_true, not_false_eq_true, ne_eq, ite_self, ite_not, ↓reduceIte]
      rw [if_neg (nI_pos (by omega)), pk_mul, nI_add, in_r (by omega) (by omega), nI_clamp (by omega), e0, lawU_s]
      by_cases hk : lF (I 230) c 0 = key
      · have hk2 : I 230 (296 + 5 * c) = key := hk
        rw [if_pos hk2, hr, bI_s, e0, e6]
        by_cases hh : hld (I 230) c (I 236)
        · refine ⟨I2, fun a ha => by rw [h2 a ha, h1 a ha], ?_⟩
          simp only [mS_c, mS_l, mS_r, mS_i, mS_j, mS_pi, mS_pj, lt_st, bq_s, bV_s, bI_s, bJ_s, bA_s, lc_229, lr_229_0, lc_230, ll_230, if_true, if_false, eq_self, true_and, and_true, false_or, or_false, true_or, or_true, false_and, and_false, not_true, not_false_eq_true, ne_eq, ite_self, ite_not, ↓reduceIte]
          rw [if_b2t hh, nI_add, in_r (by omega) (by omega), nI_clamp (by omega), h2 230 (by omega), e0, if_pos ⟨hk, hh⟩]
          rfl
        · refine ⟨I3, h3, ?_⟩
          rw [if_b2f hh, hr3, if_neg (fun q => hh q.2)]
      · have hk2 : ¬ I 230 (296 + 5 * c) = key := hk
        refine ⟨I4, h4, ?_⟩
        rw [if_neg hk2, hr4, if_neg (fun q => hk q.1)]
  obtain ⟨I', h1, hr⟩ := lp (nL (I 230)) (Nat.le_refl _) I (fun _ _ => rfl)
  refine ⟨I', h1, ?_⟩
  rw [c_197 lc_229]
  simp only [lc_229, lr_229_0, lc_230, ll_230, bq_s, if_true, if_false, eq_self, true_and, and_true, false_or, or_false, true_or, or_true, false_and, and_false, not_true, not_false_eq_true, ne_eq, ite_self, ite_not, ↓reduceIte]
  rw [in_r (by omega) (by omega), nI_clamp (by omega), hW.nL.2]
  exact hr
end B4
