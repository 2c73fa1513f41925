-- What the tables say is so: every row of them is held against the bytes, the links and the words
def jprm : Nat → Nat × Nat := fun n => match n with
  | 0 => (1, 21)
  | 1 => (1, 21)
  | 2 => (1, 20)
  | 3 => (2, 40)
  | 4 => (1, 20)
  | _ => (5, 106)
def jlen1 (ins : ClassFile.Instr) : Nat := match ins with
  | .iload _ => 2
  | .lload _ => 2
  | .aload _ => 2
  | .istore _ => 2
  | .lstore _ => 2
  | .astore _ => 2
  | .iinc _ _ => 3
  | .bipush _ => 2
  | .sipush _ => 3
  | .ldc _ => 2
  | .ldc_w _ => 3
  | .ldc2_w _ => 3
  | .ifCond _ _ => 3
  | .if_icmp _ _ => 3
  | .goto _ => 3
  | .getfield _ => 3
  | .putfield _ => 3
  | .invokestatic _ => 3
  | .invokevirtual _ => 3
  | .ifnonnull _ => 3
  | .new _ => 3
  | .invokespecial _ => 3
  | .tableswitch _ _ _ _ => 0
  | .lookupswitch _ _ => 0
  | _ => 1
def jsx (k : Nat) : Nat := match k with
  | 0 => 57
  | 1 => 59
  | 2 => 61
  | _ => 63
def jchk2 (k pc : Nat) (ins : ClassFile.Instr) (tg : Nat) (sw : List (Int × Nat)) : Bool := match ins with
  | .ifCond _ off => decide ((pc : Int) + off = (tg : Int))
  | .if_icmp _ off => decide ((pc : Int) + off = (tg : Int))
  | .goto off => decide ((pc : Int) + off = (tg : Int))
  | .ifnonnull off => decide ((pc : Int) + off = (tg : Int))
  | .iconst n => decide (-128 ≤ n ∧ n < 128)
  | .bipush n => decide (-128 ≤ n ∧ n < 128)
  | .sipush n => decide (-32768 ≤ n ∧ n < 32768)
  | .tableswitch d lo hi offs => decide ((pc : Int) + d = (tg : Int)) && decide (hi - lo + 1 = (offs.size : Int)) && sw.all (fun e => decide (lo ≤ e.1 ∧ e.1 ≤ hi) && decide (offs[(e.1 - lo).toNat]? = some ((e.2 : Int) - (pc : Int)))) && (List.range offs.size).all (fun j => decide (offs[j]? = some d) || sw.any (fun e => decide (e.1 = lo + (j : Int))))
  | .lookupswitch d ps => decide ((pc : Int) + d = (tg : Int)) && ((ps.toList.zip (ps.toList.drop 1)).all (fun (a, next) => a.1 < next.1)) && sw.all (fun e => decide ((e.1, (e.2 : Int) - (pc : Int)) ∈ ps.toList)) && ps.toList.all (fun e => decide (e.2 = d) || sw.any (fun g => decide (g.1 = e.1)))
  | .getfield idx => jfl.any (fun e => Nat.beq e.1 (jo k) && Nat.beq e.2.1 idx && Nat.beq e.2.2.1 tg)
  | .putfield idx => jfl.any (fun e => Nat.beq e.1 (jo k) && Nat.beq e.2.1 idx && Nat.beq e.2.2.1 tg)
  | .invokestatic idx => (match sw with
    | [] => jcl.any (fun e => Nat.beq e.1 (jo k) && Nat.beq e.2.1 idx && Nat.beq e.2.2.1 tg && !Nat.beq e.2.2.2.1 1) && Nat.ble (jrf tg + 1) (jrf k) && Nat.ble (19 + jml tg + jrm tg) (jrm k) && Nat.blt tg jN
    | (_, n) :: _ => jpl.any (fun e => Nat.beq e.1 (jo k) && Nat.beq e.2.1 idx && Nat.beq e.2.2.1 n) && Nat.ble n 2 && Nat.ble (jprm n).1 (jrf k) && Nat.ble (jprm n).2 (jrm k))
  | .invokevirtual idx => (match sw with
    | [] => jcl.any (fun e => Nat.beq e.1 (jo k) && Nat.beq e.2.1 idx && Nat.beq e.2.2.1 tg && Nat.beq e.2.2.2.1 1) && Nat.ble (jrf tg + 1) (jrf k) && Nat.ble (19 + jml tg + jrm tg) (jrm k) && Nat.blt tg jN
    | (_, n) :: _ => jpl.any (fun e => Nat.beq e.1 (jo k) && Nat.beq e.2.1 idx && Nat.beq e.2.2.1 n) && Nat.blt 2 n && Nat.blt n 6 && Nat.ble (jprm n).1 (jrf k) && Nat.ble (jprm n).2 (jrm k))
  | .ldc idx => (match sw with
    | [(0, q)] => Nat.beq (jo k) 1 && Nat.beq (jsx q) idx && Nat.blt q 4
    | [(v, _)] => jcs.any (fun e => Nat.beq e.1 (jo k) && Nat.beq e.2.1 idx && decide (e.2.2.1 = v))
    | _ => false)
  | .ldc_w idx => (match sw with
    | [(v, _)] => jcs.any (fun e => Nat.beq e.1 (jo k) && Nat.beq e.2.1 idx && decide (e.2.2.1 = v))
    | _ => false)
  | .ldc2_w idx => (match sw with
    | [(v, _)] => jcl2.any (fun e => Nat.beq e.1 (jo k) && Nat.beq e.2.1 idx && decide (e.2.2.1 = v))
    | _ => false)
  | _ => true
def jchk (k pc : Nat) (en : jEn) : Bool := match en with
  | (ins, nx, tg, sw) => decide (ClassFile.decode (jb k) pc = .ok (ins, nx - pc)) && Nat.blt pc nx && (Nat.beq (jlen1 ins) 0 || Nat.beq nx (pc + jlen1 ins)) && jchk2 k pc ins tg sw
theorem jlt {N pc : Nat} {x : Option jEn} {en : jEn} (h : (bif Nat.blt pc N then x else none) = some en) : pc < N := by
  cases hb : Nat.blt pc N with
  | true => exact Nat.blt_eq.mp hb
  | false => rw [hb] at h; cases h
def jkP (k : Nat) : Prop := ∀ pc en, jcode k pc = some en → jchk k pc en = true
theorem jkm {k : Nat} (N : Nat) (h1 : ∀ pc en, jcode k pc = some en → pc < N) (h2 : (List.range N).all (fun pc => match jcode k pc with
    | none => true
    | some en => jchk k pc en) = true) : jkP k := by
  intro pc en h
  have h3 := List.all_eq_true.mp h2 pc (List.mem_range.mpr (h1 pc en h))
  rw [h] at h3
  exact h3
theorem jk_0 : jkP 0 := jkm 120 (fun pc en h => jlt (N := 120) h) (by decide +kernel)
theorem jk_1 : jkP 1 := jkm 24 (fun pc en h => jlt (N := 24) h) (by decide +kernel)
theorem jk_2 : jkP 2 := jkm 15 (fun pc en h => jlt (N := 15) h) (by decide +kernel)
theorem jk_3 : jkP 3 := jkm 70 (fun pc en h => jlt (N := 70) h) (by decide +kernel)
theorem jk_4 : jkP 4 := jkm 27 (fun pc en h => jlt (N := 27) h) (by decide +kernel)
theorem jk_5 : jkP 5 := jkm 28 (fun pc en h => jlt (N := 28) h) (by decide +kernel)
theorem jk_6 : jkP 6 := jkm 72 (fun pc en h => jlt (N := 72) h) (by decide +kernel)
theorem jk_7 : jkP 7 := jkm 62 (fun pc en h => jlt (N := 62) h) (by decide +kernel)
theorem jk_8 : jkP 8 := jkm 28 (fun pc en h => jlt (N := 28) h) (by decide +kernel)
theorem jk_9 : jkP 9 := jkm 34 (fun pc en h => jlt (N := 34) h) (by decide +kernel)
theorem jk_10 : jkP 10 := jkm 43 (fun pc en h => jlt (N := 43) h) (by decide +kernel)
theorem jk_11 : jkP 11 := jkm 18 (fun pc en h => jlt (N := 18) h) (by decide +kernel)
theorem jk_12 : jkP 12 := jkm 69 (fun pc en h => jlt (N := 69) h) (by decide +kernel)
theorem jk_13 : jkP 13 := jkm 70 (fun pc en h => jlt (N := 70) h) (by decide +kernel)
theorem jk_14 : jkP 14 := jkm 79 (fun pc en h => jlt (N := 79) h) (by decide +kernel)
theorem jk_15 : jkP 15 := jkm 33 (fun pc en h => jlt (N := 33) h) (by decide +kernel)
theorem jk_16 : jkP 16 := jkm 6 (fun pc en h => jlt (N := 6) h) (by decide +kernel)
theorem jk_17 : jkP 17 := jkm 8 (fun pc en h => jlt (N := 8) h) (by decide +kernel)
theorem jk_18 : jkP 18 := jkm 36 (fun pc en h => jlt (N := 36) h) (by decide +kernel)
theorem jk_19 : jkP 19 := jkm 18 (fun pc en h => jlt (N := 18) h) (by decide +kernel)
theorem jk_20 : jkP 20 := jkm 35 (fun pc en h => jlt (N := 35) h) (by decide +kernel)
theorem jk_21 : jkP 21 := jkm 35 (fun pc en h => jlt (N := 35) h) (by decide +kernel)
theorem jk_22 : jkP 22 := jkm 36 (fun pc en h => jlt (N := 36) h) (by decide +kernel)
theorem jk_23 : jkP 23 := jkm 37 (fun pc en h => jlt (N := 37) h) (by decide +kernel)
theorem jk_24 : jkP 24 := jkm 12 (fun pc en h => jlt (N := 12) h) (by decide +kernel)
theorem jk_25 : jkP 25 := jkm 6 (fun pc en h => jlt (N := 6) h) (by decide +kernel)
theorem jk_26 : jkP 26 := jkm 81 (fun pc en h => jlt (N := 81) h) (by decide +kernel)
theorem jk_27 : jkP 27 := jkm 59 (fun pc en h => jlt (N := 59) h) (by decide +kernel)
theorem jk_28 : jkP 28 := jkm 31 (fun pc en h => jlt (N := 31) h) (by decide +kernel)
theorem jk_29 : jkP 29 := jkm 72 (fun pc en h => jlt (N := 72) h) (by decide +kernel)
theorem jk_30 : jkP 30 := jkm 55 (fun pc en h => jlt (N := 55) h) (by decide +kernel)
theorem jk_31 : jkP 31 := jkm 90 (fun pc en h => jlt (N := 90) h) (by decide +kernel)
theorem jk_32 : jkP 32 := jkm 101 (fun pc en h => jlt (N := 101) h) (by decide +kernel)
theorem jk_33 : jkP 33 := jkm 83 (fun pc en h => jlt (N := 83) h) (by decide +kernel)
theorem jk_34 : jkP 34 := jkm 23 (fun pc en h => jlt (N := 23) h) (by decide +kernel)
theorem jk_35 : jkP 35 := jkm 9 (fun pc en h => jlt (N := 9) h) (by decide +kernel)
theorem jk_36 : jkP 36 := jkm 17 (fun pc en h => jlt (N := 17) h) (by decide +kernel)
theorem jk_37 : jkP 37 := jkm 146 (fun pc en h => jlt (N := 146) h) (by decide +kernel)
theorem jk_38 : jkP 38 := jkm 79 (fun pc en h => jlt (N := 79) h) (by decide +kernel)
theorem jk_39 : jkP 39 := jkm 32 (fun pc en h => jlt (N := 32) h) (by decide +kernel)
theorem jk_40 : jkP 40 := jkm 41 (fun pc en h => jlt (N := 41) h) (by decide +kernel)
theorem jk_41 : jkP 41 := jkm 18 (fun pc en h => jlt (N := 18) h) (by decide +kernel)
theorem jk_42 : jkP 42 := jkm 36 (fun pc en h => jlt (N := 36) h) (by decide +kernel)
theorem jk_43 : jkP 43 := jkm 38 (fun pc en h => jlt (N := 38) h) (by decide +kernel)
theorem jk_44 : jkP 44 := jkm 143 (fun pc en h => jlt (N := 143) h) (by decide +kernel)
theorem jk_45 : jkP 45 := jkm 8 (fun pc en h => jlt (N := 8) h) (by decide +kernel)
theorem jk_46 : jkP 46 := jkm 46 (fun pc en h => jlt (N := 46) h) (by decide +kernel)
theorem jk_47 : jkP 47 := jkm 61 (fun pc en h => jlt (N := 61) h) (by decide +kernel)
theorem jk_48 : jkP 48 := jkm 79 (fun pc en h => jlt (N := 79) h) (by decide +kernel)
theorem jk_49 : jkP 49 := jkm 42 (fun pc en h => jlt (N := 42) h) (by decide +kernel)
theorem jk_50 : jkP 50 := jkm 105 (fun pc en h => jlt (N := 105) h) (by decide +kernel)
theorem jk_51 : jkP 51 := jkm 56 (fun pc en h => jlt (N := 56) h) (by decide +kernel)
theorem jk_52 : jkP 52 := jkm 37 (fun pc en h => jlt (N := 37) h) (by decide +kernel)
theorem jk_53 : jkP 53 := jkm 56 (fun pc en h => jlt (N := 56) h) (by decide +kernel)
theorem jk_54 : jkP 54 := jkm 34 (fun pc en h => jlt (N := 34) h) (by decide +kernel)
theorem jk_55 : jkP 55 := jkm 73 (fun pc en h => jlt (N := 73) h) (by decide +kernel)
theorem jk_56 : jkP 56 := jkm 66 (fun pc en h => jlt (N := 66) h) (by decide +kernel)
theorem jk_57 : jkP 57 := jkm 20 (fun pc en h => jlt (N := 20) h) (by decide +kernel)
theorem jk_58 : jkP 58 := jkm 16 (fun pc en h => jlt (N := 16) h) (by decide +kernel)
theorem jk_59 : jkP 59 := jkm 44 (fun pc en h => jlt (N := 44) h) (by decide +kernel)
theorem jk_60 : jkP 60 := jkm 32 (fun pc en h => jlt (N := 32) h) (by decide +kernel)
theorem jk_61 : jkP 61 := jkm 18 (fun pc en h => jlt (N := 18) h) (by decide +kernel)
theorem jk_62 : jkP 62 := jkm 44 (fun pc en h => jlt (N := 44) h) (by decide +kernel)
theorem jk_63 : jkP 63 := jkm 47 (fun pc en h => jlt (N := 47) h) (by decide +kernel)
theorem jk_64 : jkP 64 := jkm 152 (fun pc en h => jlt (N := 152) h) (by decide +kernel)
theorem jk_65 : jkP 65 := jkm 138 (fun pc en h => jlt (N := 138) h) (by decide +kernel)
theorem jk_66 : jkP 66 := jkm 96 (fun pc en h => jlt (N := 96) h) (by decide +kernel)
theorem jk_67 : jkP 67 := jkm 169 (fun pc en h => jlt (N := 169) h) (by decide +kernel)
theorem jk_68 : jkP 68 := jkm 40 (fun pc en h => jlt (N := 40) h) (by decide +kernel)
theorem jk_69 : jkP 69 := jkm 57 (fun pc en h => jlt (N := 57) h) (by decide +kernel)
theorem jk_70 : jkP 70 := jkm 16 (fun pc en h => jlt (N := 16) h) (by decide +kernel)
theorem jk_71 : jkP 71 := jkm 63 (fun pc en h => jlt (N := 63) h) (by decide +kernel)
theorem jk_72 : jkP 72 := jkm 69 (fun pc en h => jlt (N := 69) h) (by decide +kernel)
theorem jk_73 : jkP 73 := jkm 77 (fun pc en h => jlt (N := 77) h) (by decide +kernel)
theorem jk_74 : jkP 74 := jkm 78 (fun pc en h => jlt (N := 78) h) (by decide +kernel)
theorem jk_75 : jkP 75 := jkm 55 (fun pc en h => jlt (N := 55) h) (by decide +kernel)
theorem jk_76 : jkP 76 := jkm 127 (fun pc en h => jlt (N := 127) h) (by decide +kernel)
theorem jk_77 : jkP 77 := jkm 37 (fun pc en h => jlt (N := 37) h) (by decide +kernel)
theorem jk_78 : jkP 78 := jkm 112 (fun pc en h => jlt (N := 112) h) (by decide +kernel)
theorem jk_79 : jkP 79 := jkm 135 (fun pc en h => jlt (N := 135) h) (by decide +kernel)
theorem jk_80 : jkP 80 := jkm 39 (fun pc en h => jlt (N := 39) h) (by decide +kernel)
theorem jk_81 : jkP 81 := jkm 47 (fun pc en h => jlt (N := 47) h) (by decide +kernel)
theorem jk_82 : jkP 82 := jkm 24 (fun pc en h => jlt (N := 24) h) (by decide +kernel)
theorem jk_83 : jkP 83 := jkm 33 (fun pc en h => jlt (N := 33) h) (by decide +kernel)
theorem jk_84 : jkP 84 := jkm 48 (fun pc en h => jlt (N := 48) h) (by decide +kernel)
theorem jk_85 : jkP 85 := jkm 49 (fun pc en h => jlt (N := 49) h) (by decide +kernel)
theorem jk_86 : jkP 86 := jkm 58 (fun pc en h => jlt (N := 58) h) (by decide +kernel)
theorem jk_87 : jkP 87 := jkm 68 (fun pc en h => jlt (N := 68) h) (by decide +kernel)
theorem jk_88 : jkP 88 := jkm 12 (fun pc en h => jlt (N := 12) h) (by decide +kernel)
theorem jk_89 : jkP 89 := jkm 53 (fun pc en h => jlt (N := 53) h) (by decide +kernel)
theorem jk_90 : jkP 90 := jkm 53 (fun pc en h => jlt (N := 53) h) (by decide +kernel)
theorem jk_91 : jkP 91 := jkm 45 (fun pc en h => jlt (N := 45) h) (by decide +kernel)
theorem jk_92 : jkP 92 := jkm 103 (fun pc en h => jlt (N := 103) h) (by decide +kernel)
theorem jk_93 : jkP 93 := jkm 74 (fun pc en h => jlt (N := 74) h) (by decide +kernel)
theorem jk_94 : jkP 94 := jkm 10 (fun pc en h => jlt (N := 10) h) (by decide +kernel)
theorem jk_95 : jkP 95 := jkm 21 (fun pc en h => jlt (N := 21) h) (by decide +kernel)
theorem jk_96 : jkP 96 := jkm 24 (fun pc en h => jlt (N := 24) h) (by decide +kernel)
theorem jk_97 : jkP 97 := jkm 33 (fun pc en h => jlt (N := 33) h) (by decide +kernel)
theorem jk_98 : jkP 98 := jkm 133 (fun pc en h => jlt (N := 133) h) (by decide +kernel)
theorem jk_99 : jkP 99 := jkm 23 (fun pc en h => jlt (N := 23) h) (by decide +kernel)
theorem jk_100 : jkP 100 := jkm 11 (fun pc en h => jlt (N := 11) h) (by decide +kernel)
theorem jk_101 : jkP 101 := jkm 16 (fun pc en h => jlt (N := 16) h) (by decide +kernel)
theorem jk_102 : jkP 102 := jkm 16 (fun pc en h => jlt (N := 16) h) (by decide +kernel)
theorem jk_103 : jkP 103 := jkm 15 (fun pc en h => jlt (N := 15) h) (by decide +kernel)
theorem jk_104 : jkP 104 := jkm 15 (fun pc en h => jlt (N := 15) h) (by decide +kernel)
theorem jk_105 : jkP 105 := jkm 16 (fun pc en h => jlt (N := 16) h) (by decide +kernel)
theorem jk_106 : jkP 106 := jkm 11 (fun pc en h => jlt (N := 11) h) (by decide +kernel)
theorem jk_107 : jkP 107 := jkm 21 (fun pc en h => jlt (N := 21) h) (by decide +kernel)
theorem jk_108 : jkP 108 := jkm 13 (fun pc en h => jlt (N := 13) h) (by decide +kernel)
theorem jk_109 : jkP 109 := jkm 11 (fun pc en h => jlt (N := 11) h) (by decide +kernel)
theorem jk_110 : jkP 110 := jkm 8 (fun pc en h => jlt (N := 8) h) (by decide +kernel)
theorem jk_111 : jkP 111 := jkm 14 (fun pc en h => jlt (N := 14) h) (by decide +kernel)
theorem jk_112 : jkP 112 := jkm 15 (fun pc en h => jlt (N := 15) h) (by decide +kernel)
theorem jk_113 : jkP 113 := jkm 26 (fun pc en h => jlt (N := 26) h) (by decide +kernel)
theorem jk_114 : jkP 114 := jkm 68 (fun pc en h => jlt (N := 68) h) (by decide +kernel)
theorem jk_115 : jkP 115 := jkm 60 (fun pc en h => jlt (N := 60) h) (by decide +kernel)
theorem jk_116 : jkP 116 := jkm 25 (fun pc en h => jlt (N := 25) h) (by decide +kernel)
theorem jk_117 : jkP 117 := jkm 16 (fun pc en h => jlt (N := 16) h) (by decide +kernel)
theorem jk_118 : jkP 118 := jkm 39 (fun pc en h => jlt (N := 39) h) (by decide +kernel)
theorem jk_119 : jkP 119 := jkm 61 (fun pc en h => jlt (N := 61) h) (by decide +kernel)
theorem jk_120 : jkP 120 := jkm 21 (fun pc en h => jlt (N := 21) h) (by decide +kernel)
theorem jk_121 : jkP 121 := jkm 94 (fun pc en h => jlt (N := 94) h) (by decide +kernel)
theorem jk_122 : jkP 122 := jkm 18 (fun pc en h => jlt (N := 18) h) (by decide +kernel)
theorem jk_123 : jkP 123 := jkm 29 (fun pc en h => jlt (N := 29) h) (by decide +kernel)
theorem jk_124 : jkP 124 := jkm 59 (fun pc en h => jlt (N := 59) h) (by decide +kernel)
theorem jk_125 : jkP 125 := jkm 25 (fun pc en h => jlt (N := 25) h) (by decide +kernel)
theorem jk_126 : jkP 126 := jkm 71 (fun pc en h => jlt (N := 71) h) (by decide +kernel)
theorem jk_127 : jkP 127 := jkm 91 (fun pc en h => jlt (N := 91) h) (by decide +kernel)
theorem jk_128 : jkP 128 := jkm 51 (fun pc en h => jlt (N := 51) h) (by decide +kernel)
theorem jk_129 : jkP 129 := jkm 205 (fun pc en h => jlt (N := 205) h) (by decide +kernel)
theorem jk_130 : jkP 130 := jkm 70 (fun pc en h => jlt (N := 70) h) (by decide +kernel)
theorem jk_131 : jkP 131 := jkm 261 (fun pc en h => jlt (N := 261) h) (by decide +kernel)
theorem jk_132 : jkP 132 := jkm 145 (fun pc en h => jlt (N := 145) h) (by decide +kernel)
theorem jk_133 : jkP 133 := jkm 104 (fun pc en h => jlt (N := 104) h) (by decide +kernel)
theorem jk_134 : jkP 134 := jkm 8 (fun pc en h => jlt (N := 8) h) (by decide +kernel)
theorem jk_135 : jkP 135 := jkm 7 (fun pc en h => jlt (N := 7) h) (by decide +kernel)
theorem jk_136 : jkP 136 := jkm 8 (fun pc en h => jlt (N := 8) h) (by decide +kernel)
theorem jk_137 : jkP 137 := jkm 45 (fun pc en h => jlt (N := 45) h) (by decide +kernel)
theorem jk_138 : jkP 138 := jkm 39 (fun pc en h => jlt (N := 39) h) (by decide +kernel)
theorem jk_139 : jkP 139 := jkm 22 (fun pc en h => jlt (N := 22) h) (by decide +kernel)
theorem jk_140 : jkP 140 := jkm 71 (fun pc en h => jlt (N := 71) h) (by decide +kernel)
theorem jk_141 : jkP 141 := jkm 34 (fun pc en h => jlt (N := 34) h) (by decide +kernel)
theorem jk_142 : jkP 142 := jkm 98 (fun pc en h => jlt (N := 98) h) (by decide +kernel)
theorem jk_143 : jkP 143 := jkm 58 (fun pc en h => jlt (N := 58) h) (by decide +kernel)
theorem jk_144 : jkP 144 := jkm 20 (fun pc en h => jlt (N := 20) h) (by decide +kernel)
theorem jk_145 : jkP 145 := jkm 31 (fun pc en h => jlt (N := 31) h) (by decide +kernel)
theorem jk_146 : jkP 146 := jkm 46 (fun pc en h => jlt (N := 46) h) (by decide +kernel)
theorem jk_147 : jkP 147 := jkm 37 (fun pc en h => jlt (N := 37) h) (by decide +kernel)
theorem jk_148 : jkP 148 := jkm 52 (fun pc en h => jlt (N := 52) h) (by decide +kernel)
theorem jk_149 : jkP 149 := jkm 47 (fun pc en h => jlt (N := 47) h) (by decide +kernel)
theorem jk_150 : jkP 150 := jkm 125 (fun pc en h => jlt (N := 125) h) (by decide +kernel)
theorem jk_151 : jkP 151 := jkm 62 (fun pc en h => jlt (N := 62) h) (by decide +kernel)
theorem jk_152 : jkP 152 := jkm 213 (fun pc en h => jlt (N := 213) h) (by decide +kernel)
theorem jk_153 : jkP 153 := jkm 146 (fun pc en h => jlt (N := 146) h) (by decide +kernel)
theorem jk_154 : jkP 154 := jkm 91 (fun pc en h => jlt (N := 91) h) (by decide +kernel)
theorem jk_155 : jkP 155 := jkm 53 (fun pc en h => jlt (N := 53) h) (by decide +kernel)
theorem jk_156 : jkP 156 := jkm 32 (fun pc en h => jlt (N := 32) h) (by decide +kernel)
theorem jk_157 : jkP 157 := jkm 40 (fun pc en h => jlt (N := 40) h) (by decide +kernel)
theorem jk_158 : jkP 158 := jkm 71 (fun pc en h => jlt (N := 71) h) (by decide +kernel)
theorem jk_159 : jkP 159 := jkm 56 (fun pc en h => jlt (N := 56) h) (by decide +kernel)
theorem jk_160 : jkP 160 := jkm 65 (fun pc en h => jlt (N := 65) h) (by decide +kernel)
theorem jk_161 : jkP 161 := jkm 51 (fun pc en h => jlt (N := 51) h) (by decide +kernel)
theorem jk_162 : jkP 162 := jkm 59 (fun pc en h => jlt (N := 59) h) (by decide +kernel)
theorem jk_163 : jkP 163 := jkm 53 (fun pc en h => jlt (N := 53) h) (by decide +kernel)
theorem jk_164 : jkP 164 := jkm 61 (fun pc en h => jlt (N := 61) h) (by decide +kernel)
theorem jk_165 : jkP 165 := jkm 91 (fun pc en h => jlt (N := 91) h) (by decide +kernel)
theorem jk_166 : jkP 166 := jkm 53 (fun pc en h => jlt (N := 53) h) (by decide +kernel)
theorem jk_167 : jkP 167 := jkm 61 (fun pc en h => jlt (N := 61) h) (by decide +kernel)
theorem jk_168 : jkP 168 := jkm 179 (fun pc en h => jlt (N := 179) h) (by decide +kernel)
theorem jk_169 : jkP 169 := jkm 184 (fun pc en h => jlt (N := 184) h) (by decide +kernel)
theorem jk_170 : jkP 170 := jkm 110 (fun pc en h => jlt (N := 110) h) (by decide +kernel)
theorem jk_171 : jkP 171 := jkm 143 (fun pc en h => jlt (N := 143) h) (by decide +kernel)
theorem jk_172 : jkP 172 := jkm 34 (fun pc en h => jlt (N := 34) h) (by decide +kernel)
theorem jk_173 : jkP 173 := jkm 27 (fun pc en h => jlt (N := 27) h) (by decide +kernel)
theorem jk_174 : jkP 174 := jkm 33 (fun pc en h => jlt (N := 33) h) (by decide +kernel)
theorem jk_175 : jkP 175 := jkm 221 (fun pc en h => jlt (N := 221) h) (by decide +kernel)
theorem jk_176 : jkP 176 := jkm 38 (fun pc en h => jlt (N := 38) h) (by decide +kernel)
theorem jk_177 : jkP 177 := jkm 164 (fun pc en h => jlt (N := 164) h) (by decide +kernel)
theorem jk_178 : jkP 178 := jkm 59 (fun pc en h => jlt (N := 59) h) (by decide +kernel)
theorem jk_179 : jkP 179 := jkm 65 (fun pc en h => jlt (N := 65) h) (by decide +kernel)
theorem jk_180 : jkP 180 := jkm 12 (fun pc en h => jlt (N := 12) h) (by decide +kernel)
theorem jk_181 : jkP 181 := jkm 28 (fun pc en h => jlt (N := 28) h) (by decide +kernel)
theorem jk_182 : jkP 182 := jkm 176 (fun pc en h => jlt (N := 176) h) (by decide +kernel)
theorem jk_183 : jkP 183 := jkm 23 (fun pc en h => jlt (N := 23) h) (by decide +kernel)
theorem jk_184 : jkP 184 := jkm 32 (fun pc en h => jlt (N := 32) h) (by decide +kernel)
theorem jk_185 : jkP 185 := jkm 135 (fun pc en h => jlt (N := 135) h) (by decide +kernel)
