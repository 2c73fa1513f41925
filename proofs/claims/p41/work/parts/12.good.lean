-- Every step of the machine is a step of the JVM
theorem jsub1 (a n : Nat) : a + n - a = n := Nat.add_sub_cancel_left a n
def jisret : ClassFile.Instr → Bool
  | .ireturn => true
  | .lreturn => true
  | .areturn => true
  | .return_ => true
  | _ => false
set_option maxHeartbeats 4000000 in
set_option maxRecDepth 20000 in
theorem jG_step {l : Launch} {D : va_G} {cI cZ : ClassId} {ad adV : Nat → Nat} (hi : ∀ i j, i < 29 → j < 29 → ad i = ad j → i = j) {k pc : Nat} {L : jLo} {S : List jV} {M : jM} {Q : jRt} {C : jC} {R : Room} {nc ns : Nat} {Z : State → Prop} {ins : ClassFile.Instr} {nx tg : Nat} {sw : List (Int × Nat)}
    (hc : jcode k pc = some (ins, nx, tg, sw)) {p : Program} {e : Env} {s : State} {m : MethodId} {args : Array Value} {below : List Frame} {meth : Method} {c : Code}
    (hx : p.tables.exec = Jvm.exec) (hb : c.code = jb k) (hml : c.maxLocals = jml k) (hown : s.vm.findClass (jcn (jo k)) = some m.cls) (hts : ∀ w ∈ wsL_law, w.before args s = true) (hK : va_K D vwCl [(cI, .int), (cZ, .boolean)] s) (hE : jE ad adV (jA ad s.heap.size) s s.heap)
    (hro : nc ≤ R.cells ∧ ns ≤ R.slots) (hrf : jrf k ≤ R.frames) (hrl : jrm k ≤ R.locals)
    (hC0 : ∀ k' as Q', k' < jN → (∀ v, v ∈ as → jvk v) → jMr M → jcats as ≤ jml k' → C k' as M Q' → jMet l D cI cZ ad adV k' as M Q')
    (hret : jisret ins = true → (jG p l e R s m args below meth c Z D cI cZ ad (jml k) nc ns) pc L S M)
    (h' : jsem (jrk k) jmc (ins, nx, tg, sw) L S M (jG p l e R s m args below meth c Z D cI cZ ad (jml k) nc ns) C Q) : (jG p l e R s m args below meth c Z D cI cZ ad (jml k) nc ns) pc L S M := by
    have hch := jchk_of hc
    obtain ⟨hq1, hc2⟩ := jand_t hch
    obtain ⟨hq2, hc3⟩ := jand_t hq1
    obtain ⟨hc4, hc5⟩ := jand_t hq2
    have hd : ClassFile.decode (jb k) pc = .ok (ins, nx - pc) := of_decide_eq_true hc4
    have hnx : ∀ n, jlen1 ins = n → 0 < n → nx = pc + n := by
      intro n e1 e2
      rw [e1] at hc3
      rcases Bool.or_eq_true_iff.mp hc3 with z | z
      · have := Nat.eq_of_beq_eq_true z; omega
      · exact Nat.eq_of_beq_eq_true z
    clear hc4 hc3 hc5 hch hq1 hq2 hc
    have hC : tg < jN → ∀ as Q', (∀ v, v ∈ as → jvk v) → jMr M → jcats as ≤ jml tg → C tg as M Q' → jMet l D cI cZ ad adV tg as M Q' := fun ht as Q' => hC0 tg as Q' ht
    clear hC0
    cases ins
    case iload i => obtain rfl := hnx 2 rfl (by decide); rw [jsub1] at hd; exact js_iload hx hb hd h'
    case iload_n i => obtain rfl := hnx 1 rfl (by decide); rw [jsub1] at hd; exact js_iload_n hx hb hd h'
    case lload i => obtain rfl := hnx 2 rfl (by decide); rw [jsub1] at hd; exact js_lload hx hb hd h'
    case lload_n i => obtain rfl := hnx 1 rfl (by decide); rw [jsub1] at hd; exact js_lload_n hx hb hd h'
    case aload i => obtain rfl := hnx 2 rfl (by decide); rw [jsub1] at hd; exact js_aload hx hb hd h'
    case aload_n i => obtain rfl := hnx 1 rfl (by decide); rw [jsub1] at hd; exact js_aload_n hx hb hd h'
    case istore i => obtain rfl := hnx 2 rfl (by decide); rw [jsub1] at hd; exact js_istore hx hb hd h'
    case istore_n i => obtain rfl := hnx 1 rfl (by decide); rw [jsub1] at hd; exact js_istore_n hx hb hd h'
    case lstore i => obtain rfl := hnx 2 rfl (by decide); rw [jsub1] at hd; exact js_lstore hx hb hd h'
    case lstore_n i => obtain rfl := hnx 1 rfl (by decide); rw [jsub1] at hd; exact js_lstore_n hx hb hd h'
    case astore i => obtain rfl := hnx 2 rfl (by decide); rw [jsub1] at hd; exact js_astore hx hb hd h'
    case astore_n i => obtain rfl := hnx 1 rfl (by decide); rw [jsub1] at hd; exact js_astore_n hx hb hd h'
    case iinc i n => obtain rfl := hnx 3 rfl (by decide); rw [jsub1] at hd; exact js_iinc hx hb hd h'
    case iconst n =>
      obtain rfl := hnx 1 rfl (by decide); rw [jsub1] at hd
      have hn : -128 ≤ n ∧ n < 128 := of_decide_eq_true hc2
      exact js_push (.inl n) ⟨by omega, by omega⟩ (fun H locs ls q => lv_iconst (v := Int32.ofInt n) hx hb hd rfl q) h'
    case bipush n =>
      obtain rfl := hnx 2 rfl (by decide); rw [jsub1] at hd
      have hn : -128 ≤ n ∧ n < 128 := of_decide_eq_true hc2
      exact js_push (.inl n) ⟨by omega, by omega⟩ (fun H locs ls q => lv_bipush (v := Int32.ofInt n) hx hb hd (Int8.toInt32_ofInt (by show -128 ≤ n; omega) (by show n ≤ 127; omega)) q) h'
    case sipush n =>
      obtain rfl := hnx 3 rfl (by decide); rw [jsub1] at hd
      have hn : -32768 ≤ n ∧ n < 32768 := of_decide_eq_true hc2
      exact js_push (.inl n) ⟨by omega, by omega⟩ (fun H locs ls q => lv_sipush (v := Int32.ofInt n) hx hb hd (Int16.toInt32_ofInt (by show -32768 ≤ n; omega) (by show n ≤ 32767; omega)) q) h'
    case lconst n =>
      obtain rfl := hnx 1 rfl (by decide); rw [jsub1] at hd
      exact js_push (.inr (.inl n.val)) (show jrl (n.val : Int) from ⟨by omega, by have := n.isLt; omega⟩) (fun H locs ls q => lv_lconst (v := Int64.ofInt n.val) hx hb hd rfl q) h'
    case ldc idx =>
      obtain rfl := hnx 2 rfl (by decide); rw [jsub1] at hd
      rcases sw with _ | ⟨⟨v, q⟩, _ | ⟨g, r⟩⟩
      · exact False.elim h'
      · by_cases hv : v = 0
        · subst hv
          obtain ⟨c1, c3⟩ := jand_t hc2
          obtain ⟨c1, c2⟩ := jand_t c1
          have hq : q < 5 := Nat.blt_eq.mp c3
          have e1 : jo k = jsw q := Nat.eq_of_beq_eq_true c1
          have e2 : jsx q = idx := Nat.eq_of_beq_eq_true c2
          rw [e1] at hown
          subst e2
          exact js_push (.inr (.inr (9, q, 0))) (Or.inr (Or.inl ⟨rfl, hq, rfl⟩)) (fun H locs ls z => va_ldcS hx hb hown (hE.2.1 q hq) hd z) h'
        · have h2 : jcs.any (fun e => Nat.beq e.1 (jo k) && Nat.beq e.2.1 idx && decide (e.2.2.1 = v)) = true := by
            simp only [jchk2] at hc2
            exact hc2
          have h3 : (jG p l e R s m args below meth c Z D cI cZ ad (jml k) nc ns) (pc + 2) L (.inl v :: S) M := by
            simp only [jsem] at h'
            exact h'
          obtain ⟨w1, w2⟩ := jcs_in h2
          exact js_push (.inl v) w1 (fun H locs ls z => lv_ldc hx hb hown (hts _ w2) hd z) h3
      · rcases v with v | v <;> first | exact False.elim h' | (rcases v with _ | v <;> exact False.elim h')
    case ldc_w idx =>
      obtain rfl := hnx 3 rfl (by decide); rw [jsub1] at hd
      rcases sw with _ | ⟨⟨v, q⟩, _ | ⟨g, r⟩⟩
      · exact False.elim h'
      · obtain ⟨w1, w2⟩ := jcs_in hc2
        exact js_push (.inl v) w1 (fun H locs ls z => lv_ldcw hx hb hown (hts _ w2) hd z) h'
      · exact False.elim h'
    case ldc2_w idx =>
      obtain rfl := hnx 3 rfl (by decide); rw [jsub1] at hd
      rcases sw with _ | ⟨⟨v, q⟩, _ | ⟨g, r⟩⟩
      · exact False.elim h'
      · obtain ⟨w1, w2⟩ := jcl2_in hc2
        exact js_push (.inr (.inl v)) w1 (fun H locs ls z => lv_ldc2 hx hb hown (hts _ w2) hd z) h'
      · exact False.elim h'
    case iadd =>
      obtain rfl := hnx 1 rfl (by decide); rw [jsub1] at hd
      simp only [jsem] at h'
      split at h'
      · exact js_i2 (f32 := fun a b => a + b) (fun H locs ls rest x y q => lv_iadd hx hb hd q) (fun x y => by unfold jwr; rw [Int32.ofInt_add]) h'
      · exact js_ii (f32 := fun a b => a + b) (fun H locs ls rest x y _ _ _ q => lv_iadd hx hb hd q) (fun x y _ _ g => ⟨Int32.ofInt_add x y, g⟩) h'
    case isub =>
      obtain rfl := hnx 1 rfl (by decide); rw [jsub1] at hd
      exact js_ii (f32 := fun a b => a - b) (fun H locs ls rest x y _ _ _ q => lv_isub hx hb hd q) (fun x y _ _ g => ⟨Int32.ofInt_sub x y, g⟩) h'
    case imul =>
      obtain rfl := hnx 1 rfl (by decide); rw [jsub1] at hd
      simp only [jsem] at h'
      split at h'
      · exact js_i2 (f32 := fun a b => a * b) (fun H locs ls rest x y q => lv_imul hx hb hd q) (fun x y => by unfold jwr; rw [Int32.ofInt_mul]) h'
      · exact js_ii (f32 := fun a b => a * b) (fun H locs ls rest x y _ _ _ q => lv_imul hx hb hd q) (fun x y _ _ g => ⟨Int32.ofInt_mul x y, g⟩) h'
    case idiv =>
      obtain rfl := hnx 1 rfl (by decide); rw [jsub1] at hd
      exact js_ii (f32 := fun a b => a / b) (fun H locs ls rest x y r1 r2 g q => lv_idiv hx hb hd (jr_div r1 r2 g).2.2 q) (fun x y r1 r2 g => ⟨(jr_div r1 r2 g).1, (jr_div r1 r2 g).2.1⟩) h'
    case irem =>
      obtain rfl := hnx 1 rfl (by decide); rw [jsub1] at hd
      exact js_ii (f32 := fun a b => a - a / b * b) (fun H locs ls rest x y r1 r2 g q => lv_irem hx hb hd (jr_rem r1 r2 g).2.2 q) (fun x y r1 r2 g => ⟨(jr_rem r1 r2 g).1, (jr_rem r1 r2 g).2.1⟩) h'
    case ineg => obtain rfl := hnx 1 rfl (by decide); rw [jsub1] at hd; exact js_ineg hx hb hd h'
    case iand =>
      obtain rfl := hnx 1 rfl (by decide); rw [jsub1] at hd
      exact js_i2 (f32 := fun a b => a &&& b) (fun H locs ls rest x y q => lv_iand hx hb hd q) (fun x y => rfl) h'
    case ior =>
      obtain rfl := hnx 1 rfl (by decide); rw [jsub1] at hd
      exact js_i2 (f32 := fun a b => a ||| b) (fun H locs ls rest x y q => lv_ior hx hb hd q) (fun x y => rfl) h'
    case ixor =>
      obtain rfl := hnx 1 rfl (by decide); rw [jsub1] at hd
      exact js_i2 (f32 := fun a b => a ^^^ b) (fun H locs ls rest x y q => lv_ixor hx hb hd q) (fun x y => rfl) h'
    case ishl =>
      obtain rfl := hnx 1 rfl (by decide); rw [jsub1] at hd
      exact js_i2 (f32 := fun a b => a <<< (b &&& 31)) (fun H locs ls rest x y q => lv_ishl hx hb hd q) (fun x y => rfl) h'
    case ishr =>
      obtain rfl := hnx 1 rfl (by decide); rw [jsub1] at hd
      exact js_i2 (f32 := fun a b => a >>> (b &&& 31)) (fun H locs ls rest x y q => lv_ishr hx hb hd q) (fun x y => rfl) h'
    case ladd =>
      obtain rfl := hnx 1 rfl (by decide); rw [jsub1] at hd
      simp only [jsem] at h'
      split at h'
      · exact js_ll (f64 := fun a b => a + b) (fun H locs ls rest x y _ _ _ q => lv_ladd hx hb hd q) (fun x y _ _ _ => ⟨by rw [(jrl_wr _).1]; exact Int64.ofInt_add x y, (jrl_wr _).2⟩) h'
      · exact js_ll (f64 := fun a b => a + b) (fun H locs ls rest x y _ _ _ q => lv_ladd hx hb hd q) (fun x y _ _ g => ⟨Int64.ofInt_add x y, g⟩) h'
    case lsub =>
      obtain rfl := hnx 1 rfl (by decide); rw [jsub1] at hd
      exact js_ll (f64 := fun a b => a - b) (fun H locs ls rest x y _ _ _ q => lv_lsub hx hb hd q) (fun x y _ _ g => ⟨Int64.ofInt_sub x y, g⟩) h'
    case lmul =>
      obtain rfl := hnx 1 rfl (by decide); rw [jsub1] at hd
      simp only [jsem] at h'
      split at h'
      · exact js_ll (f64 := fun a b => a * b) (fun H locs ls rest x y _ _ _ q => lv_lmul hx hb hd q) (fun x y _ _ _ => ⟨by rw [(jrl_wr _).1]; exact Int64.ofInt_mul x y, (jrl_wr _).2⟩) h'
      · exact js_ll (f64 := fun a b => a * b) (fun H locs ls rest x y _ _ _ q => lv_lmul hx hb hd q) (fun x y _ _ g => ⟨Int64.ofInt_mul x y, g⟩) h'
    case ldiv =>
      obtain rfl := hnx 1 rfl (by decide); rw [jsub1] at hd
      exact js_ll (f64 := fun a b => a / b) (fun H locs ls rest x y r1 r2 g q => lv_ldiv hx hb hd (jrl_div r1 r2 g).2.2 q) (fun x y r1 r2 g => ⟨(jrl_div r1 r2 g).1, (jrl_div r1 r2 g).2.1⟩) h'
    case lrem =>
      obtain rfl := hnx 1 rfl (by decide); rw [jsub1] at hd
      exact js_ll (f64 := fun a b => a - a / b * b) (fun H locs ls rest x y r1 r2 g q => lv_lrem hx hb hd (jrl_rem r1 r2 g).2.2 q) (fun x y r1 r2 g => ⟨(jrl_rem r1 r2 g).1, (jrl_rem r1 r2 g).2.1⟩) h'
    case lcmp => obtain rfl := hnx 1 rfl (by decide); rw [jsub1] at hd; exact js_lcmp hx hb hd h'
    case i2l => obtain rfl := hnx 1 rfl (by decide); rw [jsub1] at hd; exact js_i2l hx hb hd h'
    case dup => obtain rfl := hnx 1 rfl (by decide); rw [jsub1] at hd; exact js_dup hx hb hd h'
    case dup2 => obtain rfl := hnx 1 rfl (by decide); rw [jsub1] at hd; exact js_dup2 hx hb hd h'
    case ifCond cd off =>
      obtain rfl := hnx 3 rfl (by decide); rw [jsub1] at hd
      have ht : (pc : Int) + off = (tg : Int) := of_decide_eq_true hc2
      cases cd
      · exact js_if (q32 := fun x => x = 0) (fun H locs ls rest x a b => lv_if_eq hx hb hd ht a b) (fun x hr => jr_eq hr jr_0) h'
      · exact js_if (q32 := fun x => ¬ x = 0) (fun H locs ls rest x a b => lv_if_ne hx hb hd ht a (fun z => b (fun w => w z))) (fun x hr => not_congr (jr_eq hr jr_0)) h'
      · exact js_if (q32 := fun x => x < 0) (fun H locs ls rest x a b => lv_if_lt hx hb hd ht a b) (fun x hr => jr_lt hr jr_0) h'
      · exact js_if (q32 := fun x => 0 ≤ x) (fun H locs ls rest x a b => lv_if_ge hx hb hd ht a b) (fun x hr => jr_le jr_0 hr) h'
      · exact js_if (q32 := fun x => 0 < x) (fun H locs ls rest x a b => lv_if_gt hx hb hd ht a b) (fun x hr => jr_lt jr_0 hr) h'
      · exact js_if (q32 := fun x => x ≤ 0) (fun H locs ls rest x a b => lv_if_le hx hb hd ht a b) (fun x hr => jr_le hr jr_0) h'
    case if_icmp cd off =>
      obtain rfl := hnx 3 rfl (by decide); rw [jsub1] at hd
      have ht : (pc : Int) + off = (tg : Int) := of_decide_eq_true hc2
      cases cd
      · exact js_icmp (q32 := fun x y => x = y) (fun H locs ls rest x y a b => lv_icmp_eq hx hb hd ht a b) (fun x y h1 h2 => jr_eq h1 h2) h'
      · exact js_icmp (q32 := fun x y => ¬ x = y) (fun H locs ls rest x y a b => lv_icmp_ne hx hb hd ht a (fun z => b (fun w => w z))) (fun x y h1 h2 => not_congr (jr_eq h1 h2)) h'
      · exact js_icmp (q32 := fun x y => x < y) (fun H locs ls rest x y a b => lv_icmp_lt hx hb hd ht a b) (fun x y h1 h2 => jr_lt h1 h2) h'
      · exact js_icmp (q32 := fun x y => y ≤ x) (fun H locs ls rest x y a b => lv_icmp_ge hx hb hd ht a b) (fun x y h1 h2 => jr_le h2 h1) h'
      · exact js_icmp (q32 := fun x y => y < x) (fun H locs ls rest x y a b => lv_icmp_gt hx hb hd ht a b) (fun x y h1 h2 => jr_lt h2 h1) h'
      · exact js_icmp (q32 := fun x y => x ≤ y) (fun H locs ls rest x y a b => lv_icmp_le hx hb hd ht a b) (fun x y h1 h2 => jr_le h1 h2) h'
    case goto off =>
      obtain rfl := hnx 3 rfl (by decide); rw [jsub1] at hd
      exact js_goto hx hb hd (of_decide_eq_true hc2) h'
    case ifnonnull off =>
      obtain rfl := hnx 3 rfl (by decide); rw [jsub1] at hd
      exact js_nonnull hx hb hd (of_decide_eq_true hc2) h'
    case tableswitch d lo hi' offs =>
      obtain ⟨c1, c4⟩ := jand_t hc2
      obtain ⟨c1, c3⟩ := jand_t c1
      obtain ⟨c1, c2⟩ := jand_t c1
      refine js_table hx hb hd (of_decide_eq_true c1) (of_decide_eq_true c2) (fun e he => ?_) (fun j hj => ?_) h'
      · obtain ⟨q1, q2⟩ := jand_t (List.all_eq_true.mp c3 e he)
        exact ⟨of_decide_eq_true q1, of_decide_eq_true q2⟩
      · rcases Bool.or_eq_true_iff.mp (List.all_eq_true.mp c4 j (List.mem_range.mpr hj)) with q | q
        · exact Or.inl (of_decide_eq_true q)
        · obtain ⟨g, g1, g2⟩ := jany q
          exact Or.inr ⟨g, g1, of_decide_eq_true g2⟩
    case lookupswitch d ps =>
      obtain ⟨c1, c4⟩ := jand_t hc2
      obtain ⟨c1, c3⟩ := jand_t c1
      obtain ⟨c1, c2⟩ := jand_t c1
      refine js_look hx hb hd (of_decide_eq_true c1) c2 (fun e he => of_decide_eq_true (List.all_eq_true.mp c3 e he)) (fun e he => ?_) h'
      rcases Bool.or_eq_true_iff.mp (List.all_eq_true.mp c4 e he) with q | q
      · exact Or.inl (of_decide_eq_true q)
      · obtain ⟨g, g1, g2⟩ := jany q
        exact Or.inr ⟨g, g1, of_decide_eq_true g2⟩
    case getfield idx => obtain rfl := hnx 3 rfl (by decide); rw [jsub1] at hd; exact js_get hx hb hown hts hK hd (jfl_in hc2) h'
    case putfield idx => obtain rfl := hnx 3 rfl (by decide); rw [jsub1] at hd; exact js_put hx hb hown hts hK hi hd (jfl_in hc2) h'
    case arraylength => obtain rfl := hnx 1 rfl (by decide); rw [jsub1] at hd; exact js_alen hx hb hE hd h'
    case iaload => obtain rfl := hnx 1 rfl (by decide); rw [jsub1] at hd; exact js_iald hx hb hK hd h'
    case baload => obtain rfl := hnx 1 rfl (by decide); rw [jsub1] at hd; exact js_zald hx hb hK hd h'
    case iastore => obtain rfl := hnx 1 rfl (by decide); rw [jsub1] at hd; exact js_iast hx hb hK hi hd h'
    case bastore => obtain rfl := hnx 1 rfl (by decide); rw [jsub1] at hd; exact js_zast hx hb hK hi hd h'
    case invokestatic idx =>
      obtain rfl := hnx 3 rfl (by decide); rw [jsub1] at hd
      rcases sw with _ | ⟨⟨v, n⟩, r⟩
      · obtain ⟨c1, c4⟩ := jand_t hc2
        obtain ⟨c1, c3⟩ := jand_t c1
        obtain ⟨c1, c2⟩ := jand_t c1
        have htg : tg < jN := Nat.blt_eq.mp c4
        obtain ⟨q, hq, hm⟩ := jcall_in (P := fun q => !Nat.beq q 1) c1
        rcases q with _ | _ | q
        · exact js_callS (ci := 3) (rk := (jmc tg).2.2.1) (C := C) hx hb hml hown hts hK hE htg hm.1 hro (Nat.le_trans (Nat.le_of_ble_eq_true c2) hrf) (Nat.le_trans (Nat.le_of_ble_eq_true c3) hrl) hm.2 hd (hC htg) h'
        · cases hq
        · obtain ⟨m1, m2, m3, m4⟩ := hm
          refine js_callN (host := RX1) (ci := 3) (rk := (jmc tg).2.2.1) (C := C) hx hb hml hown hts hK hE htg m1 hro (Nat.le_trans (Nat.le_of_ble_eq_true c2) hrf) (Nat.le_trans (Nat.le_of_ble_eq_true c3) hrl) ?_ hd (hC htg) h'
          rw [m2, m3, m4]
          exact hE.1
      · obtain ⟨c1, c4⟩ := jand_t hc2
        obtain ⟨c1, c3⟩ := jand_t c1
        obtain ⟨c1, c2⟩ := jand_t c1
        exact js_prim hx hb hml hown hts hE ((Bool.or_eq_true_iff.mp c2).elim (fun z => Or.inl (Nat.le_of_ble_eq_true z)) (fun z => Or.inr (Nat.eq_of_beq_eq_true z))) hro (Nat.le_trans (Nat.le_of_ble_eq_true c3) hrf) (Nat.le_trans (Nat.le_of_ble_eq_true c4) hrl) (jpl_in c1) hd h'
    case invokevirtual idx =>
      obtain rfl := hnx 3 rfl (by decide); rw [jsub1] at hd
      rcases sw with _ | ⟨⟨v, n⟩, r⟩
      · obtain ⟨c1, c4⟩ := jand_t hc2
        obtain ⟨c1, c3⟩ := jand_t c1
        obtain ⟨c1, c2⟩ := jand_t c1
        have htg : tg < jN := Nat.blt_eq.mp c4
        obtain ⟨q, hq, hm⟩ := jcall_in (P := fun q => Nat.beq q 1) c1
        have e1 : q = 1 := Nat.eq_of_beq_eq_true hq
        subst e1
        exact js_callV (rk := (jmc tg).2.2.1) (C := C) hx hb hml hown hts hK hE htg hm.1 hro (Nat.le_trans (Nat.le_of_ble_eq_true c2) hrf) (Nat.le_trans (Nat.le_of_ble_eq_true c3) hrl) hm.2 hd (hC htg) h'
      · obtain ⟨c1, c5⟩ := jand_t hc2
        obtain ⟨c1, c4⟩ := jand_t c1
        obtain ⟨c1, c3⟩ := jand_t c1
        obtain ⟨c1, c2⟩ := jand_t c1
        exact js_primV hx hb hml hown hts hE (Nat.blt_eq.mp c2) (Nat.blt_eq.mp c3) hro (Nat.le_trans (Nat.le_of_ble_eq_true c4) hrf) (Nat.le_trans (Nat.le_of_ble_eq_true c5) hrl) (jpl_in c1) hd h'
    case ireturn => exact hret rfl
    case lreturn => exact hret rfl
    case areturn => exact hret rfl
    case return_ => exact hret rfl
    all_goals exact False.elim h'
set_option maxHeartbeats 4000000 in
set_option maxRecDepth 20000 in
theorem jW_step {l : Launch} {D : va_G} {cI cZ : ClassId} {ad adV : Nat → Nat} (hi : ∀ i j, i < 29 → j < 29 → ad i = ad j → i = j) {k pc : Nat} {L : jLo} {S : List jV} {M : jM} {Q : jRt} (h : jstep (jW l D cI cZ ad adV) k pc L S M Q) : jW l D cI cZ ad adV k pc L S M Q := by
  unfold jstep at h
  cases hc : jcode k pc with
  | none => rw [hc] at h; exact False.elim h
  | some en =>
    rw [hc] at h
    have hk := jcode_lt hc
    obtain ⟨ins, nx, tg, sw⟩ := en
    intro p e s m args below meth c hx hb hml hown hts hr hlk hK hE
    have h' := jsem_mono (K' := jG p l e (jroom k) s m args below meth c (MQ below (jQ D cI cZ ad Q) args s 0 0 (jA ad s.heap.size)) D cI cZ ad (jml k) 0 0) (C' := fun k' as M' Q' => jW l D cI cZ ad adV k' 0 (jent as (jml k')) [] M' Q') (fun _ _ _ _ q => q p e s m args below meth c hx hb hml hown hts hr hlk hK hE) (fun _ _ _ _ _ q hq => jW_mono q hq) h
    refine jG_step hi hc hx hb hml hown hts hK hE ⟨Nat.zero_le _, Nat.zero_le _⟩ (Nat.le_refl _) (Nat.le_refl _) (fun k' as Q' ht hv hM hcc q => jW_met ht hv hM hcc q) (fun hret => ?_) h'
    obtain ⟨hq1, hc2⟩ := jand_t (jchk_of hc)
    obtain ⟨hq2, hc3⟩ := jand_t hq1
    obtain ⟨hc4, hc5⟩ := jand_t hq2
    have hd : ClassFile.decode (jb k) pc = .ok (ins, nx - pc) := of_decide_eq_true hc4
    have hnx : ∀ n, jlen1 ins = n → 0 < n → nx = pc + n := by
      intro n e1 e2
      rw [e1] at hc3
      rcases Bool.or_eq_true_iff.mp hc3 with z | z
      · have := Nat.eq_of_beq_eq_true z; omega
      · exact Nat.eq_of_beq_eq_true z
    clear h hc4 hc3 hc5 hq1 hq2 hc hc2
    cases ins
    case ireturn =>
      obtain rfl := hnx 1 rfl (by decide); rw [jsub1] at hd
      exact js_iret hx hb hlk (fun z => hr.trans ((jrk_ty hk).2.1 z)) (fun z => hr.trans ((jrk_ty hk).2.2.2.2 z)) hd h'
    case lreturn =>
      obtain rfl := hnx 1 rfl (by decide); rw [jsub1] at hd
      obtain ⟨z, h'⟩ := jcond h'
      exact js_lret hx hb hlk (hr.trans ((jrk_ty hk).2.2.1 (Nat.eq_of_beq_eq_true z))) hd h'
    case areturn =>
      obtain rfl := hnx 1 rfl (by decide); rw [jsub1] at hd
      obtain ⟨z, h'⟩ := jcond h'
      exact js_aret hx hb hlk (hr.trans ((jrk_ty hk).2.2.2.1 (Nat.eq_of_beq_eq_true z))) hd h'
    case return_ =>
      obtain rfl := hnx 1 rfl (by decide); rw [jsub1] at hd
      obtain ⟨z, h'⟩ := jcond h'
      exact js_vret hx hb hlk (hr.trans ((jrk_ty hk).1 (Nat.eq_of_beq_eq_true z))) hd h'
    all_goals exact Bool.noConfusion hret
/-- a method that the machine runs to its end has that contract in the JVM -/
theorem jmet {l : Launch} {D : va_G} {cI cZ : ClassId} {ad adV : Nat → Nat} (hi : ∀ i j, i < 29 → j < 29 → ad i = ad j → i = j) {k : Nat} {as : List jV} {M : jM} {Q : jRt} (hk : k < jN) (hv : ∀ v, v ∈ as → jvk v) (hM : jMr M) (hc : jcats as ≤ jml k) (h : jCall k as M Q) : jMet l D cI cZ ad adV k as M Q :=
  jW_met hk hv hM hc (h _ ⟨fun _ _ _ _ _ _ _ q hq => jW_mono q hq, fun _ _ _ _ _ _ q => jW_step hi q⟩)
