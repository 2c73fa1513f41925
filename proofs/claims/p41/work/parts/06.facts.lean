-- What the tables say is so: every row of them is held against the bytes, the links and the words
def jprm : Nat → Nat × Nat := fun n => match n with
  | 0 => (1, 21)
  | 1 => (1, 21)
  | 2 => (1, 20)
  | 3 => (2, 40)
  | 4 => (1, 20)
  | 5 => (5, 106)
  | _ => (1, 22)
def jlen1 (ins : ClassFile.Instr) : Nat := match ins with
  | .iload _ => 2
  | .lload _ => 2
  | .aload _ => 2
  | .istore _ => 2
  | .lstore _ => 2
  | .astore _ => 2
  | .iinc _ _ => 3
  | .bipush _ => 2
  | .sipush _ => 3
  | .ldc _ => 2
  | .ldc_w _ => 3
  | .ldc2_w _ => 3
  | .ifCond _ _ => 3
  | .if_icmp _ _ => 3
  | .goto _ => 3
  | .getfield _ => 3
  | .putfield _ => 3
  | .invokestatic _ => 3
  | .invokevirtual _ => 3
  | .ifnonnull _ => 3
  | .new _ => 3
  | .newarray _ => 2
  | .invokespecial _ => 3
  | .tableswitch _ _ _ _ => 0
  | .lookupswitch _ _ => 0
  | _ => 1
def jsx (k : Nat) : Nat := match k with
  | 0 => 57
  | 1 => 59
  | 2 => 61
  | 3 => 63
  | _ => 39
def jsw (k : Nat) : Nat := match k with
  | 4 => 2
  | _ => 1
def jchk2 (k pc : Nat) (ins : ClassFile.Instr) (tg : Nat) (sw : List (Int × Nat)) : Bool := match ins with
  | .ifCond _ off => decide ((pc : Int) + off = (tg : Int))
  | .if_icmp _ off => decide ((pc : Int) + off = (tg : Int))
  | .goto off => decide ((pc : Int) + off = (tg : Int))
  | .ifnonnull off => decide ((pc : Int) + off = (tg : Int))
  | .iconst n => decide (-128 ≤ n ∧ n < 128)
  | .bipush n => decide (-128 ≤ n ∧ n < 128)
  | .sipush n => decide (-32768 ≤ n ∧ n < 32768)
  | .tableswitch d lo hi offs => decide ((pc : Int) + d = (tg : Int)) && decide (hi - lo + 1 = (offs.size : Int)) && sw.all (fun e => decide (lo ≤ e.1 ∧ e.1 ≤ hi) && decide (offs[(e.1 - lo).toNat]? = some ((e.2 : Int) - (pc : Int)))) && (List.range offs.size).all (fun j => decide (offs[j]? = some d) || sw.any (fun e => decide (e.1 = lo + (j : Int))))
  | .lookupswitch d ps => decide ((pc : Int) + d = (tg : Int)) && ((ps.toList.zip (ps.toList.drop 1)).all (fun (a, next) => a.1 < next.1)) && sw.all (fun e => decide ((e.1, (e.2 : Int) - (pc : Int)) ∈ ps.toList)) && ps.toList.all (fun e => decide (e.2 = d) || sw.any (fun g => decide (g.1 = e.1)))
  | .getfield idx => jfl.any (fun e => Nat.beq e.1 (jo k) && Nat.beq e.2.1 idx && Nat.beq e.2.2.1 tg)
  | .putfield idx => jfl.any (fun e => Nat.beq e.1 (jo k) && Nat.beq e.2.1 idx && Nat.beq e.2.2.1 tg)
  | .invokestatic idx => (match sw with
    | [] => jcl.any (fun e => Nat.beq e.1 (jo k) && Nat.beq e.2.1 idx && Nat.beq e.2.2.1 tg && !Nat.beq e.2.2.2.1 1) && Nat.ble (jrf tg + 1) (jrf k) && Nat.ble (19 + jml tg + jrm tg) (jrm k) && Nat.blt tg jN
    | (_, n) :: _ => jpl.any (fun e => Nat.beq e.1 (jo k) && Nat.beq e.2.1 idx && Nat.beq e.2.2.1 n) && (Nat.ble n 2 || Nat.beq n 6) && Nat.ble (jprm n).1 (jrf k) && Nat.ble (jprm n).2 (jrm k))
  | .invokevirtual idx => (match sw with
    | [] => jcl.any (fun e => Nat.beq e.1 (jo k) && Nat.beq e.2.1 idx && Nat.beq e.2.2.1 tg && Nat.beq e.2.2.2.1 1) && Nat.ble (jrf tg + 1) (jrf k) && Nat.ble (19 + jml tg + jrm tg) (jrm k) && Nat.blt tg jN
    | (_, n) :: _ => jpl.any (fun e => Nat.beq e.1 (jo k) && Nat.beq e.2.1 idx && Nat.beq e.2.2.1 n) && Nat.blt 2 n && Nat.blt n 6 && Nat.ble (jprm n).1 (jrf k) && Nat.ble (jprm n).2 (jrm k))
  | .ldc idx => (match sw with
    | [(0, q)] => Nat.beq (jo k) (jsw q) && Nat.beq (jsx q) idx && Nat.blt q 5
    | [(v, _)] => jcs.any (fun e => Nat.beq e.1 (jo k) && Nat.beq e.2.1 idx && decide (e.2.2.1 = v))
    | _ => false)
  | .ldc_w idx => (match sw with
    | [(v, _)] => jcs.any (fun e => Nat.beq e.1 (jo k) && Nat.beq e.2.1 idx && decide (e.2.2.1 = v))
    | _ => false)
  | .ldc2_w idx => (match sw with
    | [(v, _)] => jcl2.any (fun e => Nat.beq e.1 (jo k) && Nat.beq e.2.1 idx && decide (e.2.2.1 = v))
    | _ => false)
  | _ => true
def jchk (k pc : Nat) (en : jEn) : Bool := match en with
  | (ins, nx, tg, sw) => decide (ClassFile.decode (jb k) pc = .ok (ins, nx - pc)) && Nat.blt pc nx && (Nat.beq (jlen1 ins) 0 || Nat.beq nx (pc + jlen1 ins)) && jchk2 k pc ins tg sw
theorem jlt {N pc : Nat} {x : Option jEn} {en : jEn} (h : (bif Nat.blt pc N then x else none) = some en) : pc < N := by
  cases hb : Nat.blt pc N with
  | true => exact Nat.blt_eq.mp hb
  | false => rw [hb] at h; cases h
def jkP (k : Nat) : Prop := ∀ pc en, jcode k pc = some en → jchk k pc en = true
theorem jkm {k : Nat} (N : Nat) (h1 : ∀ pc en, jcode k pc = some en → pc < N) (h2 : (List.range N).all (fun pc => match jcode k pc with
    | none => true
    | some en => jchk k pc en) = true) : jkP k := by
  intro pc en h
  have h3 := List.all_eq_true.mp h2 pc (List.mem_range.mpr (h1 pc en h))
  rw [h] at h3
  exact h3
theorem jk_0 : jkP 0 := jkm 120 (fun pc en h => jlt (N := 120) h) (by decide +kernel)
theorem jk_1 : jkP 1 := jkm 24 (fun pc en h => jlt (N := 24) h) (by decide +kernel)
theorem jk_2 : jkP 2 := jkm 15 (fun pc en h => jlt (N := 15) h) (by decide +kernel)
theorem jk_3 : jkP 3 := jkm 70 (fun pc en h => jlt (N := 70) h) (by decide +kernel)
theorem jk_4 : jkP 4 := jkm 27 (fun pc en h => jlt (N := 27) h) (by decide +kernel)
theorem jk_5 : jkP 5 := jkm 72 (fun pc en h => jlt (N := 72) h) (by decide +kernel)
theorem jk_6 : jkP 6 := jkm 62 (fun pc en h => jlt (N := 62) h) (by decide +kernel)
theorem jk_7 : jkP 7 := jkm 28 (fun pc en h => jlt (N := 28) h) (by decide +kernel)
theorem jk_8 : jkP 8 := jkm 43 (fun pc en h => jlt (N := 43) h) (by decide +kernel)
theorem jk_9 : jkP 9 := jkm 18 (fun pc en h => jlt (N := 18) h) (by decide +kernel)
theorem jk_10 : jkP 10 := jkm 69 (fun pc en h => jlt (N := 69) h) (by decide +kernel)
theorem jk_11 : jkP 11 := jkm 70 (fun pc en h => jlt (N := 70) h) (by decide +kernel)
theorem jk_12 : jkP 12 := jkm 79 (fun pc en h => jlt (N := 79) h) (by decide +kernel)
theorem jk_13 : jkP 13 := jkm 6 (fun pc en h => jlt (N := 6) h) (by decide +kernel)
theorem jk_14 : jkP 14 := jkm 8 (fun pc en h => jlt (N := 8) h) (by decide +kernel)
theorem jk_15 : jkP 15 := jkm 36 (fun pc en h => jlt (N := 36) h) (by decide +kernel)
theorem jk_16 : jkP 16 := jkm 18 (fun pc en h => jlt (N := 18) h) (by decide +kernel)
theorem jk_17 : jkP 17 := jkm 35 (fun pc en h => jlt (N := 35) h) (by decide +kernel)
theorem jk_18 : jkP 18 := jkm 35 (fun pc en h => jlt (N := 35) h) (by decide +kernel)
theorem jk_19 : jkP 19 := jkm 36 (fun pc en h => jlt (N := 36) h) (by decide +kernel)
theorem jk_20 : jkP 20 := jkm 37 (fun pc en h => jlt (N := 37) h) (by decide +kernel)
theorem jk_21 : jkP 21 := jkm 6 (fun pc en h => jlt (N := 6) h) (by decide +kernel)
theorem jk_22 : jkP 22 := jkm 81 (fun pc en h => jlt (N := 81) h) (by decide +kernel)
theorem jk_23 : jkP 23 := jkm 59 (fun pc en h => jlt (N := 59) h) (by decide +kernel)
theorem jk_24 : jkP 24 := jkm 31 (fun pc en h => jlt (N := 31) h) (by decide +kernel)
theorem jk_25 : jkP 25 := jkm 72 (fun pc en h => jlt (N := 72) h) (by decide +kernel)
theorem jk_26 : jkP 26 := jkm 55 (fun pc en h => jlt (N := 55) h) (by decide +kernel)
theorem jk_27 : jkP 27 := jkm 90 (fun pc en h => jlt (N := 90) h) (by decide +kernel)
theorem jk_28 : jkP 28 := jkm 101 (fun pc en h => jlt (N := 101) h) (by decide +kernel)
theorem jk_29 : jkP 29 := jkm 83 (fun pc en h => jlt (N := 83) h) (by decide +kernel)
theorem jk_30 : jkP 30 := jkm 23 (fun pc en h => jlt (N := 23) h) (by decide +kernel)
theorem jk_31 : jkP 31 := jkm 9 (fun pc en h => jlt (N := 9) h) (by decide +kernel)
theorem jk_32 : jkP 32 := jkm 17 (fun pc en h => jlt (N := 17) h) (by decide +kernel)
theorem jk_33 : jkP 33 := jkm 146 (fun pc en h => jlt (N := 146) h) (by decide +kernel)
theorem jk_34 : jkP 34 := jkm 79 (fun pc en h => jlt (N := 79) h) (by decide +kernel)
theorem jk_35 : jkP 35 := jkm 32 (fun pc en h => jlt (N := 32) h) (by decide +kernel)
theorem jk_36 : jkP 36 := jkm 41 (fun pc en h => jlt (N := 41) h) (by decide +kernel)
theorem jk_37 : jkP 37 := jkm 18 (fun pc en h => jlt (N := 18) h) (by decide +kernel)
theorem jk_38 : jkP 38 := jkm 36 (fun pc en h => jlt (N := 36) h) (by decide +kernel)
theorem jk_39 : jkP 39 := jkm 38 (fun pc en h => jlt (N := 38) h) (by decide +kernel)
theorem jk_40 : jkP 40 := jkm 143 (fun pc en h => jlt (N := 143) h) (by decide +kernel)
theorem jk_41 : jkP 41 := jkm 8 (fun pc en h => jlt (N := 8) h) (by decide +kernel)
theorem jk_42 : jkP 42 := jkm 46 (fun pc en h => jlt (N := 46) h) (by decide +kernel)
theorem jk_43 : jkP 43 := jkm 61 (fun pc en h => jlt (N := 61) h) (by decide +kernel)
theorem jk_44 : jkP 44 := jkm 79 (fun pc en h => jlt (N := 79) h) (by decide +kernel)
theorem jk_45 : jkP 45 := jkm 42 (fun pc en h => jlt (N := 42) h) (by decide +kernel)
theorem jk_46 : jkP 46 := jkm 105 (fun pc en h => jlt (N := 105) h) (by decide +kernel)
theorem jk_47 : jkP 47 := jkm 56 (fun pc en h => jlt (N := 56) h) (by decide +kernel)
theorem jk_48 : jkP 48 := jkm 37 (fun pc en h => jlt (N := 37) h) (by decide +kernel)
theorem jk_49 : jkP 49 := jkm 34 (fun pc en h => jlt (N := 34) h) (by decide +kernel)
theorem jk_50 : jkP 50 := jkm 73 (fun pc en h => jlt (N := 73) h) (by decide +kernel)
theorem jk_51 : jkP 51 := jkm 20 (fun pc en h => jlt (N := 20) h) (by decide +kernel)
theorem jk_52 : jkP 52 := jkm 16 (fun pc en h => jlt (N := 16) h) (by decide +kernel)
theorem jk_53 : jkP 53 := jkm 44 (fun pc en h => jlt (N := 44) h) (by decide +kernel)
theorem jk_54 : jkP 54 := jkm 32 (fun pc en h => jlt (N := 32) h) (by decide +kernel)
theorem jk_55 : jkP 55 := jkm 18 (fun pc en h => jlt (N := 18) h) (by decide +kernel)
theorem jk_56 : jkP 56 := jkm 44 (fun pc en h => jlt (N := 44) h) (by decide +kernel)
theorem jk_57 : jkP 57 := jkm 47 (fun pc en h => jlt (N := 47) h) (by decide +kernel)
theorem jk_58 : jkP 58 := jkm 138 (fun pc en h => jlt (N := 138) h) (by decide +kernel)
theorem jk_59 : jkP 59 := jkm 96 (fun pc en h => jlt (N := 96) h) (by decide +kernel)
theorem jk_60 : jkP 60 := jkm 40 (fun pc en h => jlt (N := 40) h) (by decide +kernel)
theorem jk_61 : jkP 61 := jkm 57 (fun pc en h => jlt (N := 57) h) (by decide +kernel)
theorem jk_62 : jkP 62 := jkm 16 (fun pc en h => jlt (N := 16) h) (by decide +kernel)
theorem jk_63 : jkP 63 := jkm 77 (fun pc en h => jlt (N := 77) h) (by decide +kernel)
theorem jk_64 : jkP 64 := jkm 78 (fun pc en h => jlt (N := 78) h) (by decide +kernel)
theorem jk_65 : jkP 65 := jkm 55 (fun pc en h => jlt (N := 55) h) (by decide +kernel)
theorem jk_66 : jkP 66 := jkm 58 (fun pc en h => jlt (N := 58) h) (by decide +kernel)
theorem jk_67 : jkP 67 := jkm 103 (fun pc en h => jlt (N := 103) h) (by decide +kernel)
theorem jk_68 : jkP 68 := jkm 74 (fun pc en h => jlt (N := 74) h) (by decide +kernel)
theorem jk_69 : jkP 69 := jkm 10 (fun pc en h => jlt (N := 10) h) (by decide +kernel)
theorem jk_70 : jkP 70 := jkm 21 (fun pc en h => jlt (N := 21) h) (by decide +kernel)
theorem jk_71 : jkP 71 := jkm 24 (fun pc en h => jlt (N := 24) h) (by decide +kernel)
theorem jk_72 : jkP 72 := jkm 33 (fun pc en h => jlt (N := 33) h) (by decide +kernel)
theorem jk_73 : jkP 73 := jkm 133 (fun pc en h => jlt (N := 133) h) (by decide +kernel)
theorem jk_74 : jkP 74 := jkm 23 (fun pc en h => jlt (N := 23) h) (by decide +kernel)
theorem jk_75 : jkP 75 := jkm 16 (fun pc en h => jlt (N := 16) h) (by decide +kernel)
theorem jk_76 : jkP 76 := jkm 16 (fun pc en h => jlt (N := 16) h) (by decide +kernel)
theorem jk_77 : jkP 77 := jkm 15 (fun pc en h => jlt (N := 15) h) (by decide +kernel)
theorem jk_78 : jkP 78 := jkm 15 (fun pc en h => jlt (N := 15) h) (by decide +kernel)
theorem jk_79 : jkP 79 := jkm 59 (fun pc en h => jlt (N := 59) h) (by decide +kernel)
theorem jk_80 : jkP 80 := jkm 80 (fun pc en h => jlt (N := 80) h) (by decide +kernel)
theorem jk_81 : jkP 81 := jkm 57 (fun pc en h => jlt (N := 57) h) (by decide +kernel)
theorem jk_82 : jkP 82 := jkm 197 (fun pc en h => jlt (N := 197) h) (by decide +kernel)
theorem jk_83 : jkP 83 := jkm 19 (fun pc en h => jlt (N := 19) h) (by decide +kernel)
theorem jk_84 : jkP 84 := jkm 22 (fun pc en h => jlt (N := 22) h) (by decide +kernel)
theorem jk_85 : jkP 85 := jkm 14 (fun pc en h => jlt (N := 14) h) (by decide +kernel)
theorem jk_86 : jkP 86 := jkm 34 (fun pc en h => jlt (N := 34) h) (by decide +kernel)
theorem jk_87 : jkP 87 := jkm 395 (fun pc en h => jlt (N := 395) h) (by decide +kernel)
theorem jk_88 : jkP 88 := jkm 81 (fun pc en h => jlt (N := 81) h) (by decide +kernel)
