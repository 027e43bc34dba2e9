/-! ===== each instruction is the one that stands in the method's bytes, and its links are among the tables' words ===== -/
def am_P (y i : Nat) : Nat := (pg_hi y i).1
def am_q (y i : Nat) : Nat × Nat := ((pg_hi y i).2.1, (pg_hi y i).2.2.1)
def am_le (y i : Nat) : Nat := (pg_hi y i).2.2.2
/-- the machine's own instruction -/
def am_rl (P : Nat → Nat) (pc : Nat) (q : Nat × Nat) (ins : Instr) : Instr := match ins with
  | .iconst v => (match q.1 with | 0 => .iconst v | 1 => .bipush v | 2 => .sipush v | 3 => .ldc q.2 | _ => .ldc_w q.2)
  | .bipush v => (match q.1 with | 0 => .iconst v | 1 => .bipush v | 2 => .sipush v | 3 => .ldc q.2 | _ => .ldc_w q.2)
  | .goto_w v => (match q.1 with | 0 => .lconst (Fin.ofNat 2 v.toNat) | _ => .ldc2_w q.2)
  | .jsr_w _ => .ldc2_w q.2
  | .ldc _ => .ldc q.2
  | .getstatic _ => .getstatic q.2
  | .iload k => (match q.1 with | 0 => .iload k | _ => .iload_n (Fin.ofNat 4 k))
  | .lload k => (match q.1 with | 0 => .lload k | _ => .lload_n (Fin.ofNat 4 k))
  | .aload k => (match q.1 with | 0 => .aload k | _ => .aload_n (Fin.ofNat 4 k))
  | .istore k => (match q.1 with | 0 => .istore k | _ => .istore_n (Fin.ofNat 4 k))
  | .lstore k => (match q.1 with | 0 => .lstore k | _ => .lstore_n (Fin.ofNat 4 k))
  | .astore k => (match q.1 with | 0 => .astore k | _ => .astore_n (Fin.ofNat 4 k))
  | .goto t => .goto ((P t.toNat : Int) - pc)
  | .if_icmp c t => .if_icmp c ((P t.toNat : Int) - pc)
  | .ifCond c t => .ifCond c ((P t.toNat : Int) - pc)
  | .tableswitch d lo hi ts => .tableswitch ((P d.toNat : Int) - pc) lo hi (ts.map fun t => (P t.toNat : Int) - pc)
  | .lookupswitch d ps => .lookupswitch ((P d.toNat : Int) - pc) (ps.map fun t => (t.1, (P t.2.toNat : Int) - pc))
  | .getfield _ => .getfield q.2
  | .putfield _ => .putfield q.2
  | .saload => .iaload
  | .sastore => .arraylength
  | .monitorenter => .invokespecial q.2
  | .monitorexit => .invokestatic q.2
  | .i2f => .invokestatic q.2
  | .i2d => .invokestatic q.2
  | .caload => .invokevirtual q.2
  | .castore => .invokevirtual q.2
  | .new _ => .new q.2
  | .anewarray _ => .anewarray q.2
  | .multianewarray _ _ => .multianewarray q.2 2
  | .invokestatic _ => (match q.1 with | 0 => .invokevirtual q.2 | _ => .invokestatic q.2)
  | .invokespecial _ => .invokespecial q.2
  | .freturn => .ireturn
  | i => i
/-- how long an instruction is -/
def am_ll (q : Nat × Nat) (n : Nat) (ins : Instr) : Nat := match ins with
  | .iconst _ => (match q.1 with | 0 => 1 | 1 => 2 | 2 => 3 | 3 => 2 | _ => 3)
  | .bipush _ => (match q.1 with | 0 => 1 | 1 => 2 | 2 => 3 | 3 => 2 | _ => 3)
  | .goto_w _ => (match q.1 with | 0 => 1 | _ => 3)
  | .jsr_w _ => 3
  | .ldc _ => 2
  | .getstatic _ => 3
  | .iload _ => (match q.1 with | 0 => 2 | _ => 1)
  | .lload _ => (match q.1 with | 0 => 2 | _ => 1)
  | .aload _ => (match q.1 with | 0 => 2 | _ => 1)
  | .istore _ => (match q.1 with | 0 => 2 | _ => 1)
  | .lstore _ => (match q.1 with | 0 => 2 | _ => 1)
  | .astore _ => (match q.1 with | 0 => 2 | _ => 1)
  | .iinc _ _ => 3
  | .goto _ => 3
  | .if_icmp _ _ => 3
  | .ifCond _ _ => 3
  | .tableswitch _ _ _ _ => n
  | .lookupswitch _ _ => n
  | .getfield _ => 3
  | .putfield _ => 3
  | .new _ => 3
  | .anewarray _ => 3
  | .newarray _ => 2
  | .multianewarray _ _ => 4
  | .invokestatic _ => 3
  | .invokespecial _ => 3
  | .monitorenter => 3
  | .monitorexit => 3
  | .i2f => 3
  | .i2d => 3
  | .caload => 3
  | .castore => 3
  | _ => 1
/-- how many parameters a method's text tells -/
def am_ar (y : Nat) : Option Nat := (parseMethodDescriptor (pg_nm y).desc).map fun d => d.parameters.length
/-- what a call asks of the tables: the method is one of ours, its numbers are its text's -/
def am_cok (y : Nat) (k : Bool) : Bool :=
  (pg_ys.flatten.contains y) && (pg_is y == k) && (decide ((pg_mx y) ≤ 40)) &&
  (match am_ar y with | some n => (pg_sg y).1 == (if k then n else n + 1) | none => false) &&
  (match pg_rt y with | none => (pg_sg y).2 == 0 | some .long => (pg_sg y).2 == 2 | some (.object _) => (pg_sg y).2 == 3 | some .int => (pg_sg y).2 == 1 | some .boolean => (pg_sg y).2 == 1 | _ => false)
/-- the links of an instruction of a method y of class o are among the words -/
def am_lkc (y o : Nat) (q : Nat × Nat) (ins : Instr) : Bool := match ins with
  | .iconst v => decide (0 ≤ v) && (match q.1 with | 0 => true | 1 => decide (v < 128) | 2 => decide (v < 32768) | _ => lk_c.contains (o, q.2, v))
  | .bipush v => decide (v < 0) && (match q.1 with | 0 => true | 1 => decide (-129 < v) | 2 => decide (-32769 < v) | _ => lk_c.contains (o, q.2, v))
  | .goto_w v => decide (0 ≤ v) && (match q.1 with | 0 => decide (v < 2) | _ => lk_l.contains (o, q.2, v))
  | .jsr_w v => lk_l.contains (o, q.2, v)
  | .ldc k => lk_s.contains (o, q.2, k)
  | .getstatic k => lk_g.contains (o, q.2, k) && decide (o = 0)
  | .iload k => decide (q.1 = 0 ∨ k < 4)
  | .lload k => decide (q.1 = 0 ∨ k < 4)
  | .aload k => decide (q.1 = 0 ∨ k < 4)
  | .istore k => decide ((q.1 = 0 ∨ k < 4) ∧ k < pg_mx y)
  | .lstore k => decide ((q.1 = 0 ∨ k < 4) ∧ k + 1 < pg_mx y)
  | .astore k => decide ((q.1 = 0 ∨ k < 4) ∧ k < pg_mx y)
  | .iinc k _ => decide (k < pg_mx y)
  | .tableswitch _ lo hi ts => decide (0 ≤ lo ∧ hi - lo + 1 = ts.toList.length ∧ hi < 1000)
  | .lookupswitch _ ps => ps.toList.all (fun t => decide (0 ≤ t.1 ∧ t.1 < 100000)) && (ps.toList.zip (ps.toList.drop 1)).all (fun (a, next) => decide (a.1 < next.1))
  | .getfield k => decide (k / 256 < 13) && decide (k / 4 % 64 < am_N (k / 256)) && (match q.1 with
      | 0 => lk_f.contains (o, q.2, k / 256, k / 4 % 64)
      | _ => decide (o = 11 ∧ q.2 = 181 ∧ k / 256 = 4 ∧ k / 4 % 64 = 3)) &&
      (match k % 4, (am_ft (k / 256)).getD (k / 4 % 64) 9 with | 0, 0 => true | 0, 3 => true | 1, 1 => true | 2, 2 => true | _, _ => false)
  | .putfield k => decide (k / 256 < 13) && decide (k / 4 % 64 < am_N (k / 256)) && lk_f.contains (o, q.2, k / 256, k / 4 % 64) && decide ((am_ft (k / 256)).getD (k / 4 % 64) 9 = k % 4) &&
      ((am_T (k / 256) (k / 4 % 64)).2.2.2 == false || (decide (o = k / 256) && decide ((pg_nm y).name = "<init>")))
  | .monitorenter => lk_o.contains (o, q.2)
  | .monitorexit => lk_a.contains (o, q.2)
  | .castore => lk_t.contains (o, q.2, 0)
  | .caload => lk_t.contains (o, q.2, 1)
  | .i2f => lk_m.contains (o, q.2, 272)
  | .i2d => lk_m.contains (o, q.2, 273)
  | .new k => decide (k / 64 < 13) && decide (k % 64 = am_N (k / 64)) && lk_n.contains (o, q.2, am_on (k / 64))
  | .anewarray k => decide (k = 1 ∨ k = 2 ∨ k = 7 ∨ k = 9) && lk_n.contains (o, q.2, am_on k)
  | .multianewarray k _ => (match k with | 0 => lk_n.contains (o, q.2, "[[I") | 1 => lk_n.contains (o, q.2, "[[J") | _ => false)
  | .invokestatic z => (match q.1 with
      | 0 => am_cok z false && lk_m.contains (o, q.2, z) && ((pg_nm z).name != "<init>") && decide (pg_ow z < 13)
      | 1 => am_cok z true && lk_m.contains (o, q.2, z)
      | _ => am_cok z true && lk_nm.contains (o, q.2, z, 11))
  | .invokespecial z => am_cok z false && ((pg_nm z).name == "<init>") && (pg_rt z == none) && (match q.1 with
      | 2 => lk_m.contains (o, q.2, z)
      | _ => lk_nm.contains (o, q.2, z, 11))
  | .ireturn => pg_rt y == some .int
  | .freturn => pg_rt y == some .boolean
  | .lreturn => pg_rt y == some .long
  | .areturn => (match pg_rt y with | some (.object _) => true | _ => false)
  | .return_ => pg_rt y == none
  | .ifCond _ t => decide (0 ≤ t)
  | .if_icmp _ t => decide (0 ≤ t)
  | .goto t => decide (0 ≤ t)
  | _ => true
/-- one instruction of a method -/
def am_ck1 (y i : Nat) : Bool := match pg_cd y i with
  | .nop => true
  | ins => decide (decode (pg_by y) (am_P y i) = .ok (am_rl (am_P y) (am_P y i) (am_q y i) ins, am_ll (am_q y i) (am_le y i) ins)) && am_lkc y (pg_ow y) (am_q y i) ins && decide (am_P y (i + 1) = am_P y i + am_ll (am_q y i) (am_le y i) ins)
def am_chk (y : Nat) : Bool := (List.range (16 * (pg_m y).length)).all (am_ck1 y)
theorem pg_at_ge {α : Type} (d : α) : ∀ (l : List α) (k : Nat), l.length ≤ k → pg_at d l k = d
  | [], _, _ => rfl
  | _ :: l, 0, h => absurd h (by simp)
  | _ :: l, k + 1, h => pg_at_ge d l k (by simpa using h)
theorem am_chk_at {y i : Nat} (h : am_chk y = true) (hn : pg_cd y i ≠ .nop) : am_ck1 y i = true := by
  by_cases hi : i < 16 * (pg_m y).length
  · exact List.all_eq_true.mp h i (List.mem_range.mpr hi)
  · exfalso
    apply hn
    have h1 : (pg_m y).length ≤ i / 16 := by omega
    unfold pg_cd
    rw [pg_at_ge [] (pg_m y) (i / 16) h1]
    rfl
theorem am_chk_f {y i : Nat} {ins : Instr} (h : am_chk y = true) (hc : pg_cd y i = ins) (hn : ins ≠ .nop) :
    decode (pg_by y) (am_P y i) = .ok (am_rl (am_P y) (am_P y i) (am_q y i) ins, am_ll (am_q y i) (am_le y i) ins) ∧ am_lkc y (pg_ow y) (am_q y i) ins = true ∧ am_P y (i + 1) = am_P y i + am_ll (am_q y i) (am_le y i) ins := by
  have h1 := am_chk_at h (by rw [hc]; exact hn)
  unfold am_ck1 at h1
  rw [hc] at h1
  cases ins <;> first | exact absurd rfl hn | (simp only [Bool.and_eq_true, decide_eq_true_eq] at h1; exact ⟨h1.1.1, h1.1.2, h1.2⟩)
set_option maxRecDepth 100000 in
theorem pg_ok_0 : am_chk 0 = true := by decide +kernel
set_option maxRecDepth 100000 in
theorem pg_ok_1 : am_chk 1 = true := by decide +kernel
set_option maxRecDepth 100000 in
theorem pg_ok_2 : am_chk 2 = true := by decide +kernel
set_option maxRecDepth 100000 in
theorem pg_ok_3 : am_chk 3 = true := by decide +kernel
set_option maxRecDepth 100000 in
theorem pg_ok_4 : am_chk 4 = true := by decide +kernel
set_option maxRecDepth 100000 in
theorem pg_ok_5 : am_chk 5 = true := by decide +kernel
set_option maxRecDepth 100000 in
theorem pg_ok_6 : am_chk 6 = true := by decide +kernel
set_option maxRecDepth 100000 in
theorem pg_ok_7 : am_chk 7 = true := by decide +kernel
set_option maxRecDepth 100000 in
theorem pg_ok_8 : am_chk 8 = true := by decide +kernel
set_option maxRecDepth 100000 in
theorem pg_ok_9 : am_chk 9 = true := by decide +kernel
set_option maxRecDepth 100000 in
theorem pg_ok_10 : am_chk 10 = true := by decide +kernel
set_option maxRecDepth 100000 in
theorem pg_ok_11 : am_chk 11 = true := by decide +kernel
set_option maxRecDepth 100000 in
theorem pg_ok_12 : am_chk 12 = true := by decide +kernel
set_option maxRecDepth 100000 in
theorem pg_ok_13 : am_chk 13 = true := by decide +kernel
set_option maxRecDepth 100000 in
theorem pg_ok_14 : am_chk 14 = true := by decide +kernel
set_option maxRecDepth 100000 in
theorem pg_ok_15 : am_chk 15 = true := by decide +kernel
set_option maxRecDepth 100000 in
theorem pg_ok_16 : am_chk 16 = true := by decide +kernel
set_option maxRecDepth 100000 in
theorem pg_ok_17 : am_chk 17 = true := by decide +kernel
set_option maxRecDepth 100000 in
theorem pg_ok_18 : am_chk 18 = true := by decide +kernel
set_option maxRecDepth 100000 in
theorem pg_ok_19 : am_chk 19 = true := by decide +kernel
set_option maxRecDepth 100000 in
theorem pg_ok_20 : am_chk 20 = true := by decide +kernel
set_option maxRecDepth 100000 in
theorem pg_ok_21 : am_chk 21 = true := by decide +kernel
set_option maxRecDepth 100000 in
theorem pg_ok_22 : am_chk 22 = true := by decide +kernel
set_option maxRecDepth 100000 in
theorem pg_ok_23 : am_chk 23 = true := by decide +kernel
set_option maxRecDepth 100000 in
theorem pg_ok_24 : am_chk 24 = true := by decide +kernel
set_option maxRecDepth 100000 in
theorem pg_ok_25 : am_chk 25 = true := by decide +kernel
set_option maxRecDepth 100000 in
theorem pg_ok_26 : am_chk 26 = true := by decide +kernel
set_option maxRecDepth 100000 in
theorem pg_ok_27 : am_chk 27 = true := by decide +kernel
set_option maxRecDepth 100000 in
theorem pg_ok_28 : am_chk 28 = true := by decide +kernel
set_option maxRecDepth 100000 in
theorem pg_ok_29 : am_chk 29 = true := by decide +kernel
set_option maxRecDepth 100000 in
theorem pg_ok_30 : am_chk 30 = true := by decide +kernel
set_option maxRecDepth 100000 in
theorem pg_ok_31 : am_chk 31 = true := by decide +kernel
set_option maxRecDepth 100000 in
theorem pg_ok_32 : am_chk 32 = true := by decide +kernel
set_option maxRecDepth 100000 in
theorem pg_ok_33 : am_chk 33 = true := by decide +kernel
set_option maxRecDepth 100000 in
theorem pg_ok_34 : am_chk 34 = true := by decide +kernel
set_option maxRecDepth 100000 in
theorem pg_ok_35 : am_chk 35 = true := by decide +kernel
set_option maxRecDepth 100000 in
theorem pg_ok_36 : am_chk 36 = true := by decide +kernel
set_option maxRecDepth 100000 in
theorem pg_ok_37 : am_chk 37 = true := by decide +kernel
set_option maxRecDepth 100000 in
theorem pg_ok_38 : am_chk 38 = true := by decide +kernel
set_option maxRecDepth 100000 in
theorem pg_ok_39 : am_chk 39 = true := by decide +kernel
set_option maxRecDepth 100000 in
theorem pg_ok_40 : am_chk 40 = true := by decide +kernel
set_option maxRecDepth 100000 in
theorem pg_ok_41 : am_chk 41 = true := by decide +kernel
set_option maxRecDepth 100000 in
theorem pg_ok_42 : am_chk 42 = true := by decide +kernel
set_option maxRecDepth 100000 in
theorem pg_ok_43 : am_chk 43 = true := by decide +kernel
set_option maxRecDepth 100000 in
theorem pg_ok_44 : am_chk 44 = true := by decide +kernel
set_option maxRecDepth 100000 in
theorem pg_ok_45 : am_chk 45 = true := by decide +kernel
set_option maxRecDepth 100000 in
theorem pg_ok_46 : am_chk 46 = true := by decide +kernel
set_option maxRecDepth 100000 in
theorem pg_ok_47 : am_chk 47 = true := by decide +kernel
set_option maxRecDepth 100000 in
theorem pg_ok_48 : am_chk 48 = true := by decide +kernel
set_option maxRecDepth 100000 in
theorem pg_ok_49 : am_chk 49 = true := by decide +kernel
set_option maxRecDepth 100000 in
theorem pg_ok_50 : am_chk 50 = true := by decide +kernel
set_option maxRecDepth 100000 in
theorem pg_ok_51 : am_chk 51 = true := by decide +kernel
set_option maxRecDepth 100000 in
theorem pg_ok_52 : am_chk 52 = true := by decide +kernel
set_option maxRecDepth 100000 in
theorem pg_ok_53 : am_chk 53 = true := by decide +kernel
set_option maxRecDepth 100000 in
theorem pg_ok_54 : am_chk 54 = true := by decide +kernel
set_option maxRecDepth 100000 in
theorem pg_ok_55 : am_chk 55 = true := by decide +kernel
set_option maxRecDepth 100000 in
theorem pg_ok_56 : am_chk 56 = true := by decide +kernel
set_option maxRecDepth 100000 in
theorem pg_ok_57 : am_chk 57 = true := by decide +kernel
set_option maxRecDepth 100000 in
theorem pg_ok_58 : am_chk 58 = true := by decide +kernel
set_option maxRecDepth 100000 in
theorem pg_ok_59 : am_chk 59 = true := by decide +kernel
set_option maxRecDepth 100000 in
theorem pg_ok_60 : am_chk 60 = true := by decide +kernel
set_option maxRecDepth 100000 in
theorem pg_ok_61 : am_chk 61 = true := by decide +kernel
set_option maxRecDepth 100000 in
theorem pg_ok_62 : am_chk 62 = true := by decide +kernel
set_option maxRecDepth 100000 in
theorem pg_ok_63 : am_chk 63 = true := by decide +kernel
set_option maxRecDepth 100000 in
theorem pg_ok_64 : am_chk 64 = true := by decide +kernel
set_option maxRecDepth 100000 in
theorem pg_ok_65 : am_chk 65 = true := by decide +kernel
set_option maxRecDepth 100000 in
theorem pg_ok_66 : am_chk 66 = true := by decide +kernel
set_option maxRecDepth 100000 in
theorem pg_ok_67 : am_chk 67 = true := by decide +kernel
set_option maxRecDepth 100000 in
theorem pg_ok_68 : am_chk 68 = true := by decide +kernel
set_option maxRecDepth 100000 in
theorem pg_ok_69 : am_chk 69 = true := by decide +kernel
set_option maxRecDepth 100000 in
theorem pg_ok_70 : am_chk 70 = true := by decide +kernel
set_option maxRecDepth 100000 in
theorem pg_ok_71 : am_chk 71 = true := by decide +kernel
set_option maxRecDepth 100000 in
theorem pg_ok_72 : am_chk 72 = true := by decide +kernel
set_option maxRecDepth 100000 in
theorem pg_ok_73 : am_chk 73 = true := by decide +kernel
set_option maxRecDepth 100000 in
theorem pg_ok_74 : am_chk 74 = true := by decide +kernel
set_option maxRecDepth 100000 in
theorem pg_ok_75 : am_chk 75 = true := by decide +kernel
set_option maxRecDepth 100000 in
theorem pg_ok_76 : am_chk 76 = true := by decide +kernel
set_option maxRecDepth 100000 in
theorem pg_ok_77 : am_chk 77 = true := by decide +kernel
set_option maxRecDepth 100000 in
theorem pg_ok_78 : am_chk 78 = true := by decide +kernel
set_option maxRecDepth 100000 in
theorem pg_ok_79 : am_chk 79 = true := by decide +kernel
set_option maxRecDepth 100000 in
theorem pg_ok_80 : am_chk 80 = true := by decide +kernel
set_option maxRecDepth 100000 in
theorem pg_ok_81 : am_chk 81 = true := by decide +kernel
set_option maxRecDepth 100000 in
theorem pg_ok_82 : am_chk 82 = true := by decide +kernel
set_option maxRecDepth 100000 in
theorem pg_ok_83 : am_chk 83 = true := by decide +kernel
set_option maxRecDepth 100000 in
theorem pg_ok_84 : am_chk 84 = true := by decide +kernel
set_option maxRecDepth 100000 in
theorem pg_ok_85 : am_chk 85 = true := by decide +kernel
set_option maxRecDepth 100000 in
theorem pg_ok_86 : am_chk 86 = true := by decide +kernel
set_option maxRecDepth 100000 in
theorem pg_ok_87 : am_chk 87 = true := by decide +kernel
set_option maxRecDepth 100000 in
theorem pg_ok_88 : am_chk 88 = true := by decide +kernel
set_option maxRecDepth 100000 in
theorem pg_ok_89 : am_chk 89 = true := by decide +kernel
set_option maxRecDepth 100000 in
theorem pg_ok_90 : am_chk 90 = true := by decide +kernel
set_option maxRecDepth 100000 in
theorem pg_ok_91 : am_chk 91 = true := by decide +kernel
set_option maxRecDepth 100000 in
theorem pg_ok_92 : am_chk 92 = true := by decide +kernel
set_option maxRecDepth 100000 in
theorem pg_ok_93 : am_chk 93 = true := by decide +kernel
set_option maxRecDepth 100000 in
theorem pg_ok_94 : am_chk 94 = true := by decide +kernel
set_option maxRecDepth 100000 in
theorem pg_ok_95 : am_chk 95 = true := by decide +kernel
set_option maxRecDepth 100000 in
theorem pg_ok_96 : am_chk 96 = true := by decide +kernel
set_option maxRecDepth 100000 in
theorem pg_ok_97 : am_chk 97 = true := by decide +kernel
set_option maxRecDepth 100000 in
theorem pg_ok_98 : am_chk 98 = true := by decide +kernel
set_option maxRecDepth 100000 in
theorem pg_ok_99 : am_chk 99 = true := by decide +kernel
set_option maxRecDepth 100000 in
theorem pg_ok_100 : am_chk 100 = true := by decide +kernel
set_option maxRecDepth 100000 in
theorem pg_ok_101 : am_chk 101 = true := by decide +kernel
set_option maxRecDepth 100000 in
theorem pg_ok_102 : am_chk 102 = true := by decide +kernel
set_option maxRecDepth 100000 in
theorem pg_ok_103 : am_chk 103 = true := by decide +kernel
set_option maxRecDepth 100000 in
theorem pg_ok_104 : am_chk 104 = true := by decide +kernel
set_option maxRecDepth 100000 in
theorem pg_ok_105 : am_chk 105 = true := by decide +kernel
set_option maxRecDepth 100000 in
theorem pg_ok_106 : am_chk 106 = true := by decide +kernel
set_option maxRecDepth 100000 in
theorem pg_ok_107 : am_chk 107 = true := by decide +kernel
set_option maxRecDepth 100000 in
theorem pg_ok_108 : am_chk 108 = true := by decide +kernel
set_option maxRecDepth 100000 in
theorem pg_ok_109 : am_chk 109 = true := by decide +kernel
set_option maxRecDepth 100000 in
theorem pg_ok_110 : am_chk 110 = true := by decide +kernel
set_option maxRecDepth 100000 in
theorem pg_ok_111 : am_chk 111 = true := by decide +kernel
set_option maxRecDepth 100000 in
theorem pg_ok_112 : am_chk 112 = true := by decide +kernel
set_option maxRecDepth 100000 in
theorem pg_ok_113 : am_chk 113 = true := by decide +kernel
set_option maxRecDepth 100000 in
theorem pg_ok_114 : am_chk 114 = true := by decide +kernel
set_option maxRecDepth 100000 in
theorem pg_ok_115 : am_chk 115 = true := by decide +kernel
set_option maxRecDepth 100000 in
theorem pg_ok_116 : am_chk 116 = true := by decide +kernel
set_option maxRecDepth 100000 in
theorem pg_ok_117 : am_chk 117 = true := by decide +kernel
set_option maxRecDepth 100000 in
theorem pg_ok_118 : am_chk 118 = true := by decide +kernel
set_option maxRecDepth 100000 in
theorem pg_ok_119 : am_chk 119 = true := by decide +kernel
set_option maxRecDepth 100000 in
theorem pg_ok_120 : am_chk 120 = true := by decide +kernel
set_option maxRecDepth 100000 in
theorem pg_ok_121 : am_chk 121 = true := by decide +kernel
set_option maxRecDepth 100000 in
theorem pg_ok_122 : am_chk 122 = true := by decide +kernel
set_option maxRecDepth 100000 in
theorem pg_ok_123 : am_chk 123 = true := by decide +kernel
set_option maxRecDepth 100000 in
theorem pg_ok_124 : am_chk 124 = true := by decide +kernel
set_option maxRecDepth 100000 in
theorem pg_ok_125 : am_chk 125 = true := by decide +kernel
set_option maxRecDepth 100000 in
theorem pg_ok_126 : am_chk 126 = true := by decide +kernel
set_option maxRecDepth 100000 in
theorem pg_ok_127 : am_chk 127 = true := by decide +kernel
set_option maxRecDepth 100000 in
theorem pg_ok_128 : am_chk 128 = true := by decide +kernel
set_option maxRecDepth 100000 in
theorem pg_ok_129 : am_chk 129 = true := by decide +kernel
set_option maxRecDepth 100000 in
theorem pg_ok_130 : am_chk 130 = true := by decide +kernel
set_option maxRecDepth 100000 in
theorem pg_ok_131 : am_chk 131 = true := by decide +kernel
set_option maxRecDepth 100000 in
theorem pg_ok_132 : am_chk 132 = true := by decide +kernel
set_option maxRecDepth 100000 in
theorem pg_ok_133 : am_chk 133 = true := by decide +kernel
set_option maxRecDepth 100000 in
theorem pg_ok_134 : am_chk 134 = true := by decide +kernel
set_option maxRecDepth 100000 in
theorem pg_ok_135 : am_chk 135 = true := by decide +kernel
set_option maxRecDepth 100000 in
theorem pg_ok_136 : am_chk 136 = true := by decide +kernel
set_option maxRecDepth 100000 in
theorem pg_ok_137 : am_chk 137 = true := by decide +kernel
set_option maxRecDepth 100000 in
theorem pg_ok_138 : am_chk 138 = true := by decide +kernel
set_option maxRecDepth 100000 in
theorem pg_ok_139 : am_chk 139 = true := by decide +kernel
set_option maxRecDepth 100000 in
theorem pg_ok_140 : am_chk 140 = true := by decide +kernel
set_option maxRecDepth 100000 in
theorem pg_ok_141 : am_chk 141 = true := by decide +kernel
set_option maxRecDepth 100000 in
theorem pg_ok_142 : am_chk 142 = true := by decide +kernel
set_option maxRecDepth 100000 in
theorem pg_ok_143 : am_chk 143 = true := by decide +kernel
set_option maxRecDepth 100000 in
theorem pg_ok_144 : am_chk 144 = true := by decide +kernel
set_option maxRecDepth 100000 in
theorem pg_ok_145 : am_chk 145 = true := by decide +kernel
set_option maxRecDepth 100000 in
theorem pg_ok_146 : am_chk 146 = true := by decide +kernel
set_option maxRecDepth 100000 in
theorem pg_ok_147 : am_chk 147 = true := by decide +kernel
set_option maxRecDepth 100000 in
theorem pg_ok_148 : am_chk 148 = true := by decide +kernel
set_option maxRecDepth 100000 in
theorem pg_ok_149 : am_chk 149 = true := by decide +kernel
set_option maxRecDepth 100000 in
theorem pg_ok_150 : am_chk 150 = true := by decide +kernel
set_option maxRecDepth 100000 in
theorem pg_ok_151 : am_chk 151 = true := by decide +kernel
set_option maxRecDepth 100000 in
theorem pg_ok_152 : am_chk 152 = true := by decide +kernel
set_option maxRecDepth 100000 in
theorem pg_ok_153 : am_chk 153 = true := by decide +kernel
set_option maxRecDepth 100000 in
theorem pg_ok_154 : am_chk 154 = true := by decide +kernel
set_option maxRecDepth 100000 in
theorem pg_ok_155 : am_chk 155 = true := by decide +kernel
set_option maxRecDepth 100000 in
theorem pg_ok_156 : am_chk 156 = true := by decide +kernel
set_option maxRecDepth 100000 in
theorem pg_ok_157 : am_chk 157 = true := by decide +kernel
set_option maxRecDepth 100000 in
theorem pg_ok_158 : am_chk 158 = true := by decide +kernel
set_option maxRecDepth 100000 in
theorem pg_ok_159 : am_chk 159 = true := by decide +kernel
set_option maxRecDepth 100000 in
theorem pg_ok_160 : am_chk 160 = true := by decide +kernel
set_option maxRecDepth 100000 in
theorem pg_ok_161 : am_chk 161 = true := by decide +kernel
set_option maxRecDepth 100000 in
theorem pg_ok_162 : am_chk 162 = true := by decide +kernel
set_option maxRecDepth 100000 in
theorem pg_ok_163 : am_chk 163 = true := by decide +kernel
set_option maxRecDepth 100000 in
theorem pg_ok_164 : am_chk 164 = true := by decide +kernel
set_option maxRecDepth 100000 in
theorem pg_ok_165 : am_chk 165 = true := by decide +kernel
set_option maxRecDepth 100000 in
theorem pg_ok_166 : am_chk 166 = true := by decide +kernel
set_option maxRecDepth 100000 in
theorem pg_ok_167 : am_chk 167 = true := by decide +kernel
set_option maxRecDepth 100000 in
theorem pg_ok_168 : am_chk 168 = true := by decide +kernel
set_option maxRecDepth 100000 in
theorem pg_ok_169 : am_chk 169 = true := by decide +kernel
set_option maxRecDepth 100000 in
theorem pg_ok_170 : am_chk 170 = true := by decide +kernel
set_option maxRecDepth 100000 in
theorem pg_ok_171 : am_chk 171 = true := by decide +kernel
set_option maxRecDepth 100000 in
theorem pg_ok_172 : am_chk 172 = true := by decide +kernel
set_option maxRecDepth 100000 in
theorem pg_ok_173 : am_chk 173 = true := by decide +kernel
set_option maxRecDepth 100000 in
theorem pg_ok_174 : am_chk 174 = true := by decide +kernel
set_option maxRecDepth 100000 in
theorem pg_ok_175 : am_chk 175 = true := by decide +kernel
set_option maxRecDepth 100000 in
theorem pg_ok_176 : am_chk 176 = true := by decide +kernel
set_option maxRecDepth 100000 in
theorem pg_ok_177 : am_chk 177 = true := by decide +kernel
set_option maxRecDepth 100000 in
theorem pg_ok_178 : am_chk 178 = true := by decide +kernel
set_option maxRecDepth 100000 in
theorem pg_ok_179 : am_chk 179 = true := by decide +kernel
set_option maxRecDepth 100000 in
theorem pg_ok_180 : am_chk 180 = true := by decide +kernel
set_option maxRecDepth 100000 in
theorem pg_ok_181 : am_chk 181 = true := by decide +kernel
set_option maxRecDepth 100000 in
theorem pg_ok_182 : am_chk 182 = true := by decide +kernel
set_option maxRecDepth 100000 in
theorem pg_ok_183 : am_chk 183 = true := by decide +kernel
set_option maxRecDepth 100000 in
theorem pg_ok_184 : am_chk 184 = true := by decide +kernel
set_option maxRecDepth 100000 in
theorem pg_ok_185 : am_chk 185 = true := by decide +kernel
set_option maxRecDepth 100000 in
theorem pg_ok_186 : am_chk 186 = true := by decide +kernel
set_option maxRecDepth 100000 in
theorem pg_ok_187 : am_chk 187 = true := by decide +kernel
set_option maxRecDepth 100000 in
theorem pg_ok_188 : am_chk 188 = true := by decide +kernel
set_option maxRecDepth 100000 in
theorem pg_ok_189 : am_chk 189 = true := by decide +kernel
set_option maxRecDepth 100000 in
theorem pg_ok_190 : am_chk 190 = true := by decide +kernel
set_option maxRecDepth 100000 in
theorem pg_ok_191 : am_chk 191 = true := by decide +kernel
set_option maxRecDepth 100000 in
theorem pg_ok_192 : am_chk 192 = true := by decide +kernel
set_option maxRecDepth 100000 in
theorem pg_ok_193 : am_chk 193 = true := by decide +kernel
set_option maxRecDepth 100000 in
theorem pg_ok_194 : am_chk 194 = true := by decide +kernel
set_option maxRecDepth 100000 in
theorem pg_ok_195 : am_chk 195 = true := by decide +kernel
set_option maxRecDepth 100000 in
theorem pg_ok_196 : am_chk 196 = true := by decide +kernel
set_option maxRecDepth 100000 in
theorem pg_ok_197 : am_chk 197 = true := by decide +kernel
set_option maxRecDepth 100000 in
theorem pg_ok_198 : am_chk 198 = true := by decide +kernel
set_option maxRecDepth 100000 in
theorem pg_ok_199 : am_chk 199 = true := by decide +kernel
set_option maxRecDepth 100000 in
theorem pg_ok_200 : am_chk 200 = true := by decide +kernel
set_option maxRecDepth 100000 in
theorem pg_ok_201 : am_chk 201 = true := by decide +kernel
set_option maxRecDepth 100000 in
theorem pg_ok_202 : am_chk 202 = true := by decide +kernel
set_option maxRecDepth 100000 in
theorem pg_ok_203 : am_chk 203 = true := by decide +kernel
set_option maxRecDepth 100000 in
theorem pg_ok_204 : am_chk 204 = true := by decide +kernel
set_option maxRecDepth 100000 in
theorem pg_ok_205 : am_chk 205 = true := by decide +kernel
set_option maxRecDepth 100000 in
theorem pg_ok_206 : am_chk 206 = true := by decide +kernel
set_option maxRecDepth 100000 in
theorem pg_ok_207 : am_chk 207 = true := by decide +kernel
set_option maxRecDepth 100000 in
theorem pg_ok_208 : am_chk 208 = true := by decide +kernel
set_option maxRecDepth 100000 in
theorem pg_ok_209 : am_chk 209 = true := by decide +kernel
set_option maxRecDepth 100000 in
theorem pg_ok_210 : am_chk 210 = true := by decide +kernel
set_option maxRecDepth 100000 in
theorem pg_ok_211 : am_chk 211 = true := by decide +kernel
set_option maxRecDepth 100000 in
theorem pg_ok_212 : am_chk 212 = true := by decide +kernel
set_option maxRecDepth 100000 in
theorem pg_ok_213 : am_chk 213 = true := by decide +kernel
set_option maxRecDepth 100000 in
theorem pg_ok_214 : am_chk 214 = true := by decide +kernel
set_option maxRecDepth 100000 in
theorem pg_ok_215 : am_chk 215 = true := by decide +kernel
set_option maxRecDepth 100000 in
theorem pg_ok_216 : am_chk 216 = true := by decide +kernel
set_option maxRecDepth 100000 in
theorem pg_ok_217 : am_chk 217 = true := by decide +kernel
set_option maxRecDepth 100000 in
theorem pg_ok_218 : am_chk 218 = true := by decide +kernel
set_option maxRecDepth 100000 in
theorem pg_ok_219 : am_chk 219 = true := by decide +kernel
set_option maxRecDepth 100000 in
theorem pg_ok_220 : am_chk 220 = true := by decide +kernel
set_option maxRecDepth 100000 in
theorem pg_ok_221 : am_chk 221 = true := by decide +kernel
set_option maxRecDepth 100000 in
theorem pg_ok_222 : am_chk 222 = true := by decide +kernel
set_option maxRecDepth 100000 in
theorem pg_ok_223 : am_chk 223 = true := by decide +kernel
set_option maxRecDepth 100000 in
theorem pg_ok_224 : am_chk 224 = true := by decide +kernel
set_option maxRecDepth 100000 in
theorem pg_ok_225 : am_chk 225 = true := by decide +kernel
set_option maxRecDepth 100000 in
theorem pg_ok_226 : am_chk 226 = true := by decide +kernel
set_option maxRecDepth 100000 in
theorem pg_ok_227 : am_chk 227 = true := by decide +kernel
set_option maxRecDepth 100000 in
theorem pg_ok_228 : am_chk 228 = true := by decide +kernel
set_option maxRecDepth 100000 in
theorem pg_ok_229 : am_chk 229 = true := by decide +kernel
set_option maxRecDepth 100000 in
theorem pg_ok_230 : am_chk 230 = true := by decide +kernel
set_option maxRecDepth 100000 in
theorem pg_ok_231 : am_chk 231 = true := by decide +kernel
set_option maxRecDepth 100000 in
theorem pg_ok_232 : am_chk 232 = true := by decide +kernel
set_option maxRecDepth 100000 in
theorem pg_ok_233 : am_chk 233 = true := by decide +kernel
set_option maxRecDepth 100000 in
theorem pg_ok_234 : am_chk 234 = true := by decide +kernel
set_option maxRecDepth 100000 in
theorem pg_ok_235 : am_chk 235 = true := by decide +kernel
set_option maxRecDepth 100000 in
theorem pg_ok_236 : am_chk 236 = true := by decide +kernel
set_option maxRecDepth 100000 in
theorem pg_ok_237 : am_chk 237 = true := by decide +kernel
set_option maxRecDepth 100000 in
theorem pg_ok_238 : am_chk 238 = true := by decide +kernel
set_option maxRecDepth 100000 in
theorem pg_ok_239 : am_chk 239 = true := by decide +kernel
set_option maxRecDepth 100000 in
theorem pg_ok_240 : am_chk 240 = true := by decide +kernel
set_option maxRecDepth 100000 in
theorem pg_ok_241 : am_chk 241 = true := by decide +kernel
set_option maxRecDepth 100000 in
theorem pg_ok_242 : am_chk 242 = true := by decide +kernel
set_option maxRecDepth 100000 in
theorem pg_ok_243 : am_chk 243 = true := by decide +kernel
set_option maxRecDepth 100000 in
theorem pg_ok_244 : am_chk 244 = true := by decide +kernel
set_option maxRecDepth 100000 in
theorem pg_ok_245 : am_chk 245 = true := by decide +kernel
set_option maxRecDepth 100000 in
theorem pg_ok_246 : am_chk 246 = true := by decide +kernel
set_option maxRecDepth 100000 in
theorem pg_ok_247 : am_chk 247 = true := by decide +kernel
set_option maxRecDepth 100000 in
theorem pg_ok_248 : am_chk 248 = true := by decide +kernel
set_option maxRecDepth 100000 in
theorem pg_ok_249 : am_chk 249 = true := by decide +kernel
set_option maxRecDepth 100000 in
theorem pg_ok_250 : am_chk 250 = true := by decide +kernel
set_option maxRecDepth 100000 in
theorem pg_ok_251 : am_chk 251 = true := by decide +kernel
set_option maxRecDepth 100000 in
theorem pg_ok_252 : am_chk 252 = true := by decide +kernel
set_option maxRecDepth 100000 in
theorem pg_ok_253 : am_chk 253 = true := by decide +kernel
set_option maxRecDepth 100000 in
theorem pg_ok_254 : am_chk 254 = true := by decide +kernel
set_option maxRecDepth 100000 in
theorem pg_ok_255 : am_chk 255 = true := by decide +kernel
set_option maxRecDepth 100000 in
theorem pg_ok_256 : am_chk 256 = true := by decide +kernel
set_option maxRecDepth 100000 in
theorem pg_ok_257 : am_chk 257 = true := by decide +kernel
set_option maxRecDepth 100000 in
theorem pg_ok_258 : am_chk 258 = true := by decide +kernel
set_option maxRecDepth 100000 in
theorem pg_ok_259 : am_chk 259 = true := by decide +kernel
set_option maxRecDepth 100000 in
theorem pg_ok_260 : am_chk 260 = true := by decide +kernel
set_option maxRecDepth 100000 in
theorem pg_ok_261 : am_chk 261 = true := by decide +kernel
set_option maxRecDepth 100000 in
theorem pg_ok_262 : am_chk 262 = true := by decide +kernel
set_option maxRecDepth 100000 in
theorem pg_ok_263 : am_chk 263 = true := by decide +kernel
set_option maxRecDepth 100000 in
theorem pg_ok_264 : am_chk 264 = true := by decide +kernel
set_option maxRecDepth 100000 in
theorem pg_ok_265 : am_chk 265 = true := by decide +kernel
set_option maxRecDepth 100000 in
theorem pg_ok_266 : am_chk 266 = true := by decide +kernel
set_option maxRecDepth 100000 in
theorem pg_ok_267 : am_chk 267 = true := by decide +kernel
set_option maxRecDepth 100000 in
theorem pg_ok_268 : am_chk 268 = true := by decide +kernel
set_option maxRecDepth 100000 in
theorem pg_ok_269 : am_chk 269 = true := by decide +kernel
set_option maxRecDepth 100000 in
theorem pg_ok_270 : am_chk 270 = true := by decide +kernel
set_option maxRecDepth 100000 in
theorem pg_ok_271 : am_chk 271 = true := by decide +kernel
set_option maxRecDepth 100000 in
theorem pg_ok_272 : am_chk 272 = true := by decide +kernel
set_option maxRecDepth 100000 in
theorem pg_ok_273 : am_chk 273 = true := by decide +kernel
