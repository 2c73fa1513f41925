-- What the machine does, the JVM does
def jprn (n : Nat) : MethodName := match n with
  | 0 => Lib.Math.max.name
  | 1 => Lib.Math.min.name
  | 2 => yJ6_bitCount_0f7a4
  | 3 => yJ0_length_8abf5
  | 4 => yJ0_isEmpty_aae02
  | 5 => yJ0_charAt_5068e
  | _ => yL_cell
def jplP (e : Nat × Nat × Nat × Nat) : Bool := decide (wsL_law[e.2.2.2]? = some (Cond.methodLink (jcn e.1) e.2.1 (jprn e.2.2.1)))
theorem jpl_all : jpl.all jplP = true := by decide +kernel
theorem jany {α : Type} {l : List α} {q : α → Bool} (h : l.any q = true) : ∃ e, e ∈ l ∧ q e = true := List.any_eq_true.mp h
theorem jpl_in {o idx n : Nat} (h : jpl.any (fun e => Nat.beq e.1 o && Nat.beq e.2.1 idx && Nat.beq e.2.2.1 n) = true) : Cond.methodLink (jcn o) idx (jprn n) ∈ wsL_law := by
  obtain ⟨e, he, hq⟩ := jany h
  obtain ⟨hq, h3⟩ := jand_t hq
  obtain ⟨h1, h2⟩ := jand_t hq
  have hp := List.all_eq_true.mp jpl_all e he
  rw [← Nat.eq_of_beq_eq_true h1, ← Nat.eq_of_beq_eq_true h2, ← Nat.eq_of_beq_eq_true h3]
  exact List.mem_of_getElem? (of_decide_eq_true hp)
theorem jfl_in {o idx tg : Nat} (h : jfl.any (fun e => Nat.beq e.1 o && Nat.beq e.2.1 idx && Nat.beq e.2.2.1 tg) = true) : Cond.fieldLink (jcn o) idx (jTn (tg / 1000) (tg % 1000)).1 (jTn (tg / 1000) (tg % 1000)).2.1 (jTn (tg / 1000) (tg % 1000)).2.2.1 ∈ wsL_law := by
  obtain ⟨e, he, hq⟩ := jany h
  obtain ⟨hq, h3⟩ := jand_t hq
  obtain ⟨h1, h2⟩ := jand_t hq
  have hp := List.all_eq_true.mp jfl_all e he
  rw [← Nat.eq_of_beq_eq_true h1, ← Nat.eq_of_beq_eq_true h2, ← Nat.eq_of_beq_eq_true h3]
  exact List.mem_of_getElem? (of_decide_eq_true hp)
theorem jcs_in {o idx : Nat} {v : Int} (h : jcs.any (fun e => Nat.beq e.1 o && Nat.beq e.2.1 idx && decide (e.2.2.1 = v)) = true) : jr v ∧ Cond.constant (jcn o) idx (Int32.ofInt v) ∈ wsL_law := by
  obtain ⟨e, he, hq⟩ := jany h
  obtain ⟨hq, h3⟩ := jand_t hq
  obtain ⟨h1, h2⟩ := jand_t hq
  obtain ⟨hp1, hp2⟩ := jand_t (List.all_eq_true.mp jcs_all e he)
  rw [← Nat.eq_of_beq_eq_true h1, ← Nat.eq_of_beq_eq_true h2, ← of_decide_eq_true h3]
  have hq1 := of_decide_eq_true hp1
  exact ⟨hq1, List.mem_of_getElem? (of_decide_eq_true hp2)⟩
theorem jcl2_in {o idx : Nat} {v : Int} (h : jcl2.any (fun e => Nat.beq e.1 o && Nat.beq e.2.1 idx && decide (e.2.2.1 = v)) = true) : jrl v ∧ Cond.constantLong (jcn o) idx (Int64.ofInt v) ∈ wsL_law := by
  obtain ⟨e, he, hq⟩ := jany h
  obtain ⟨hq, h3⟩ := jand_t hq
  obtain ⟨h1, h2⟩ := jand_t hq
  obtain ⟨hp1, hp2⟩ := jand_t (List.all_eq_true.mp jcl2_all e he)
  rw [← Nat.eq_of_beq_eq_true h1, ← Nat.eq_of_beq_eq_true h2, ← of_decide_eq_true h3]
  have hq1 := of_decide_eq_true hp1
  exact ⟨hq1, List.mem_of_getElem? (of_decide_eq_true hp2)⟩
section JPrims
variable {p : Program} {l : Launch} {e : Env} {R : Room} {s : State} {m : MethodId} {args : Array Value} {below : List Frame} {meth : Method} {c : Code} {Z : State → Prop} {D : va_G} {cI cZ : ClassId} {ad adV : Nat → Nat} {nL nc ns : Nat} {cc : ByteArray} {pc : Nat} {L : jLo} {S : List jV} {M : jM}
theorem jr_max {x y : Int} (hx : jr x) (hy : jr y) : (if Int32.ofInt x < Int32.ofInt y then Int32.ofInt y else Int32.ofInt x) = Int32.ofInt (max x y) ∧ jr (max x y) := by
  by_cases h : x < y
  · rw [if_pos ((jr_lt hx hy).mpr h), Int.max_eq_right (by omega)]
    exact ⟨rfl, hy⟩
  · rw [if_neg (fun z => h ((jr_lt hx hy).mp z)), Int.max_eq_left (by omega)]
    exact ⟨rfl, hx⟩
theorem jr_min {x y : Int} (hx : jr x) (hy : jr y) : (if Int32.ofInt y < Int32.ofInt x then Int32.ofInt y else Int32.ofInt x) = Int32.ofInt (min x y) ∧ jr (min x y) := by
  by_cases h : y < x
  · rw [if_pos ((jr_lt hy hx).mpr h), Int.min_eq_right (by omega)]
    exact ⟨rfl, hy⟩
  · rw [if_neg (fun z => h ((jr_lt hy hx).mp z)), Int.min_eq_left (by omega)]
    exact ⟨rfl, hx⟩
theorem jEp {H : Heap} {locs : List Loc} (hE : jE ad adV (jA ad s.heap.size) s s.heap) (hS : va_S (jA ad s.heap.size) s.heap H locs) : ∀ U : State, U.heap = H → s.WarmedH U.vm → U.heap.size = H.size ∧ jE ad adV (fun q => H.size ≤ q) U U.heap := by
  intro U hU hW
  rw [hU]
  exact ⟨rfl, jE_warm hW (jE_narrow (jE_kept hE hS.2.1) (fun q h => Or.inr (Nat.le_trans hS.1 h)))⟩
theorem jPk {H H1 : Heap} (hP : va_P D vwCl (jws cI cZ ad M) H) (hk : ∀ q : Nat, q < H.size → ¬ (H.size ≤ q) → H1[q]? = H[q]?) : va_P D vwCl (jws cI cZ ad M) H1 :=
  hP.kept fun k q h => hk q.1 (hP k q h).lt (Nat.not_le.mpr (hP k q h).lt)
theorem jpc_r : ∀ (n : Nat) (x : Int), 0 ≤ jpc n x ∧ jpc n x ≤ n
  | 0, _ => ⟨Int.le_refl _, Int.le_refl _⟩
  | n + 1, x => by
    obtain ⟨h1, h2⟩ := jpc_r n (x / 2)
    unfold jpc
    omega
theorem jbl {av : List Value} {sz : Nat} : FrameBlind (va_Pc av (fun U => U.heap.size = sz ∧ jE ad adV (fun q => sz ≤ q) U U.heap)) := fun a U g mk q => ⟨q.1, q.2.1, jE_same (u := U) (U := U.calling g mk a) rfl q.2.2⟩
theorem js_prim (hx : p.tables.exec = Jvm.exec) (hb : c.code = cc) (hml : c.maxLocals = nL) {own : String} (hown : s.vm.findClass own = some m.cls) (hts : ∀ w ∈ wsL_law, w.before args s = true) (hE : jE ad adV (jA ad s.heap.size) s s.heap)
    {idx n : Nat} (hn : n ≤ 2 ∨ n = 6) (hro : nc ≤ R.cells ∧ ns ≤ R.slots) (hf : (jprm n).1 ≤ R.frames) (hlo : (jprm n).2 ≤ R.locals) (hl : Cond.methodLink own idx (jprn n) ∈ wsL_law) (hd : ClassFile.decode cc pc = .ok (.invokestatic idx, 3)) (h : jo_prim n (pc + 3) L S M (jG p l e R s m args below meth c Z D cI cZ ad nL nc ns)) : (jG p l e R s m args below meth c Z D cI cZ ad nL nc ns) pc L S M := by
  intro H locs ls ⟨hM, hLo, hSo, hP, hS, hh⟩
  rcases n with _ | _ | _ | n
  · rcases S with _ | ⟨y | y | y, _ | ⟨x | x | x, S⟩⟩ <;> try exact False.elim h
    obtain ⟨h1, h⟩ := jcond h
    obtain ⟨e1, e2⟩ := jr_max (x := x) (y := y) (jS_hd (jS_tl hSo)) (jS_hd hSo)
    refine va_mmax hx hb (hml.trans hh.1.symm) hown (hts _ hl) (hts _ (jp_9 (Cond.static Lib.Math.max.name) (List.mem_of_getElem? (l := wsL_law_r9) (i := 11) rfl))) (hts _ (jp_9 (Cond.initialized "java/lang/Math") (List.mem_of_getElem? (l := wsL_law_r9) (i := 12) rfl))) (hts _ (jp_9 (Cond.code Lib.Math.max.name Lib.Math.max.code 2 (some .int)) (List.mem_of_getElem? (l := wsL_law_r9) (i := 13) rfl))) hf ?_ hro.1 hro.2 hd ?_
    · rw [jcats_sum]; have h8 := Nat.le_of_ble_eq_true h1; have h9 : 21 ≤ R.locals := hlo; omega
    · rw [e1]
      exact h H locs ls ⟨hM, hLo, jS_cons e2 (jS_tl (jS_tl hSo)), hP, hS, hh⟩
  · rcases S with _ | ⟨y | y | y, _ | ⟨x | x | x, S⟩⟩ <;> try exact False.elim h
    obtain ⟨h1, h⟩ := jcond h
    obtain ⟨e1, e2⟩ := jr_min (x := x) (y := y) (jS_hd (jS_tl hSo)) (jS_hd hSo)
    refine va_mmin hx hb (hml.trans hh.1.symm) hown (hts _ hl) (hts _ (jp_10 (Cond.static Lib.Math.min.name) (List.mem_of_getElem? (l := wsL_law_r10) (i := 5) rfl))) (hts _ (jp_9 (Cond.initialized "java/lang/Math") (List.mem_of_getElem? (l := wsL_law_r9) (i := 12) rfl))) (hts _ (jp_10 (Cond.code Lib.Math.min.name Lib.Math.min.code 2 (some .int)) (List.mem_of_getElem? (l := wsL_law_r10) (i := 6) rfl))) hf ?_ hro.1 hro.2 hd ?_
    · rw [jcats_sum]; have h8 := Nat.le_of_ble_eq_true h1; have h9 : 21 ≤ R.locals := hlo; omega
    · rw [e1]
      exact h H locs ls ⟨hM, hLo, jS_cons e2 (jS_tl (jS_tl hSo)), hP, hS, hh⟩
  · rcases S with _ | ⟨x | x | x, S⟩ <;> try exact False.elim h
    obtain ⟨h1, ⟨h2, h3⟩, h⟩ := jcond h
    refine va_calli (va_runS (As := [.int (Int32.ofInt x)]) (rest := S.map (jva ad)) ⟨hx, hb, hml, hown, hts⟩ (cq_bit l ad adV (Int32.ofInt x) H.size)
      ⟨callB_of (ws' := wsL_law) 1 hts (jgoodIn (jcons_in (jp_12 (Cond.code yJ6_bitCount_0f7a4 cJ6_bitCount_0f7a4 1 (some .int)) (List.mem_of_getElem? (l := wsL_law_r12) (i := 11) rfl)))) rfl rfl rfl (hts _ (jp_12 (Cond.initialized RJ6) (List.mem_of_getElem? (l := wsL_law_r12) (i := 10) rfl))) (hts _ hl) (by decide +kernel) ⟨hf, hlo⟩, hts _ (jp_12 (Cond.static yJ6_bitCount_0f7a4) (List.mem_of_getElem? (l := wsL_law_r12) (i := 9) rfl))⟩ ⟨jbl, fun U hU hW => ⟨rfl, jEp hE hS U hU hW⟩⟩ rfl rfl hh.1 rfl (lv_room (by rw [jcats_sum]; exact Nat.le_of_ble_eq_true h1)) hd hro) hS (fun q _ h => Or.inr (Nat.le_trans hS.1 h)) (fun q h => Or.inr (Nat.le_trans hS.1 h)) (fun r u t H1 locs1 ht hvm hw hB hz1 hk1 hS1 => ?_)
    subst hw
    rw [jbc_of h2 h3]
    have hj := jpc_r 10 x
    exact h H1 locs1 ls ⟨hM, hLo, jS_cons (show jr (jpc 10 x) from ⟨by omega, by omega⟩) (jS_tl hSo), jPk hP hk1, hS1, hh⟩
  · obtain rfl : n = 3 := by omega
    rcases S with _ | ⟨y | y | y, _ | ⟨x | x | ⟨_ | _ | _ | _ | _ | a1, _ | a2, _ | a3⟩, S⟩⟩ <;> try exact False.elim h
    obtain ⟨h1, h0, h⟩ := jcond h
    refine va_calli (va_runS (As := [.ref (ad 200), .int (Int32.ofInt y)]) (rest := S.map (jva ad)) ⟨hx, hb, hml, hown, hts⟩ (cq_cell l ad adV y h0 (jS_hd hSo) H.size)
      ⟨callB_of (ws' := wsL_law) 2 hts (jgoodIn (jcons_in (jp_2 (Cond.code yL_cell cL_cell 3 (some .int)) (List.mem_of_getElem? (l := wsL_law_r2) (i := 19) rfl)))) rfl rfl rfl (hts _ (jp_2 (Cond.initialized RL) (List.mem_of_getElem? (l := wsL_law_r2) (i := 15) rfl))) (hts _ hl) (by decide +kernel) ⟨hf, hlo⟩, hts _ (jp_2 (Cond.static yL_cell) (List.mem_of_getElem? (l := wsL_law_r2) (i := 18) rfl))⟩ ⟨jbl, fun U hU hW => ⟨rfl, jEp hE hS U hU hW⟩⟩ rfl rfl hh.1 rfl (lv_room (by rw [jcats_sum]; exact Nat.le_of_ble_eq_true h1)) hd hro) hS (fun q _ h => Or.inr (Nat.le_trans hS.1 h)) (fun q h => Or.inr (Nat.le_trans hS.1 h)) (fun r u t H1 locs1 ht hvm hw hB hz1 hk1 hS1 => ?_)
    rw [← jr_o r]
    exact h _ (jr_r r) H1 locs1 ls ⟨hM, hLo, jS_cons (jr_r r) (jS_tl (jS_tl hSo)), jPk hP hk1, hS1, hh⟩
theorem js_alen (hx : p.tables.exec = Jvm.exec) (hb : c.code = cc) (hE : jE ad adV (jA ad s.heap.size) s s.heap) (hd : ClassFile.decode cc pc = .ok (.arraylength, 1)) (h : jo_alen (pc + 1) L S M (jG p l e R s m args below meth c Z D cI cZ ad nL nc ns)) : (jG p l e R s m args below meth c Z D cI cZ ad nL nc ns) pc L S M := by
  intro H locs ls ⟨hM, hLo, hSo, hP, hS, hh⟩
  rcases S with _ | ⟨x | x | ⟨_ | _ | _ | _ | _ | a1, _ | a2, _ | a3⟩, S⟩ <;> try exact False.elim h
  obtain ⟨L0, xs, hL, hX, hbl, hbA⟩ := hE.2.2.2.2.2
  refine va_slen hx hb hX hbl hbA hS hd ?_
  rw [← jr_o (Int32.ofNat L0)]
  exact h _ (jr_r _) H locs ls ⟨hM, hLo, jS_cons (jr_r _) (jS_tl hSo), hP, hS, hh⟩
theorem jtx_ok {k : Nat} (h : jokr (9, k, 0)) : k < 5 := by
  rcases h with h | ⟨-, h, -⟩ | h
  · rcases h with ⟨h, -⟩ | ⟨h, -⟩ | ⟨h, -⟩ <;> cases h
  · exact h
  · cases h
theorem jsl_jr0 {k : Nat} (hk : k < 5) : jr (jsl k) ∧ jr (if jsl k = 0 then 1 else 0) := by
  rcases k with _ | _ | _ | _ | _ | k
  · exact ⟨⟨by decide, by decide⟩, ⟨by decide, by decide⟩⟩
  · exact ⟨⟨by decide, by decide⟩, ⟨by decide, by decide⟩⟩
  · exact ⟨⟨by decide, by decide⟩, ⟨by decide, by decide⟩⟩
  · exact ⟨⟨by decide, by decide⟩, ⟨by decide, by decide⟩⟩
  · exact ⟨⟨by decide, by decide⟩, ⟨by decide, by decide⟩⟩
  · omega
theorem jst_jr : (List.range 5).all (fun k => (List.range 6).all (fun j => decide (-2147483648 ≤ (jst k).getD j 0 ∧ (jst k).getD j 0 < 2147483648))) = true := by decide +kernel
theorem js_primV (hx : p.tables.exec = Jvm.exec) (hb : c.code = cc) (hml : c.maxLocals = nL) {own : String} (hown : s.vm.findClass own = some m.cls) (hts : ∀ w ∈ wsL_law, w.before args s = true) (hE : jE ad adV (jA ad s.heap.size) s s.heap)
    {idx n : Nat} (hn : 2 < n) (hn6 : n < 6) (hro : nc ≤ R.cells ∧ ns ≤ R.slots) (hf : (jprm n).1 ≤ R.frames) (hlo : (jprm n).2 ≤ R.locals) (hl : Cond.methodLink own idx (jprn n) ∈ wsL_law) (hd : ClassFile.decode cc pc = .ok (.invokevirtual idx, 3)) (h : jo_prim n (pc + 3) L S M (jG p l e R s m args below meth c Z D cI cZ ad nL nc ns)) : (jG p l e R s m args below meth c Z D cI cZ ad nL nc ns) pc L S M := by
  intro H locs ls ⟨hM, hLo, hSo, hP, hS, hh⟩
  rcases n with _ | _ | _ | _ | _ | _ | n <;> try omega
  · rcases S with _ | ⟨x | x | ⟨_ | _ | _ | _ | _ | _ | _ | _ | _ | _ | a1, k, _ | a3⟩, S⟩ <;> try exact False.elim h
    have hk : k < 5 := jtx_ok (jS_hd hSo)
    obtain ⟨h1, h⟩ := jcond h
    refine va_calli (va_runV (C := RJ0) (b := ad (100 + k)) (As := []) (rest := S.map (jva ad)) ⟨hx, hb, hml, hown, hts⟩ (cq_len l ad adV k hk H.size)
      ⟨callB_of (ws' := wsL_law) 0 hts (jgoodIn (jcons_in (jp_6 (Cond.code yJ0_length_8abf5 cJ0_length_8abf5 1 (some .int)) (List.mem_of_getElem? (l := wsL_law_r6) (i := 1) rfl)))) rfl rfl rfl (hts _ (jp_3 (Cond.initialized RJ0) (List.mem_of_getElem? (l := wsL_law_r3) (i := 17) rfl))) (hts _ hl) (by decide +kernel) ⟨hf, hlo⟩, hts _ (jp_5 (Cond.instanceMethod yJ0_length_8abf5) (List.mem_of_getElem? (l := wsL_law_r5) (i := 23) rfl)), hts _ (jp_6 (Cond.selects RJ0 yJ0_length_8abf5 yJ0_length_8abf5) (List.mem_of_getElem? (l := wsL_law_r6) (i := 0) rfl))⟩ ⟨jbl, vk_recv (adK := fun k => ad (100 + k)) (i := k) hE.2.2.1 hk hS, fun U hU hW => ⟨rfl, jEp hE hS U hU hW⟩⟩ rfl rfl hh.1 rfl (lv_room (by rw [jcats_sum]; exact Nat.le_of_ble_eq_true h1)) hd hro) hS (fun q _ h => Or.inr (Nat.le_trans hS.1 h)) (fun q h => Or.inr (Nat.le_trans hS.1 h)) (fun r u t H1 locs1 ht hvm hw hB hz1 hk1 hS1 => ?_)
    subst hw
    exact h H1 locs1 ls ⟨hM, hLo, jS_cons (jsl_jr0 hk).1 (jS_tl hSo), jPk hP hk1, hS1, hh⟩
  · rcases S with _ | ⟨x | x | ⟨_ | _ | _ | _ | _ | _ | _ | _ | _ | _ | a1, k, _ | a3⟩, S⟩ <;> try exact False.elim h
    have hk : k < 5 := jtx_ok (jS_hd hSo)
    obtain ⟨h1, h⟩ := jcond h
    refine va_calli (va_runV (C := RJ0) (b := ad (100 + k)) (As := []) (rest := S.map (jva ad)) ⟨hx, hb, hml, hown, hts⟩ (cq_emp l ad adV k hk H.size)
      ⟨callB_of (ws' := wsL_law) 0 hts (jgoodIn (jcons_in (jp_6 (Cond.code yJ0_isEmpty_aae02 cJ0_isEmpty_aae02 1 (some .boolean)) (List.mem_of_getElem? (l := wsL_law_r6) (i := 19) rfl)))) rfl rfl rfl (hts _ (jp_3 (Cond.initialized RJ0) (List.mem_of_getElem? (l := wsL_law_r3) (i := 17) rfl))) (hts _ hl) (by decide +kernel) ⟨hf, hlo⟩, hts _ (jp_6 (Cond.instanceMethod yJ0_isEmpty_aae02) (List.mem_of_getElem? (l := wsL_law_r6) (i := 17) rfl)), hts _ (jp_6 (Cond.selects RJ0 yJ0_isEmpty_aae02 yJ0_isEmpty_aae02) (List.mem_of_getElem? (l := wsL_law_r6) (i := 18) rfl))⟩ ⟨jbl, vk_recv (adK := fun k => ad (100 + k)) (i := k) hE.2.2.1 hk hS, fun U hU hW => ⟨rfl, jEp hE hS U hU hW⟩⟩ rfl rfl hh.1 rfl (lv_room (by rw [jcats_sum]; exact Nat.le_of_ble_eq_true h1)) hd hro) hS (fun q _ h => Or.inr (Nat.le_trans hS.1 h)) (fun q h => Or.inr (Nat.le_trans hS.1 h)) (fun r u t H1 locs1 ht hvm hw hB hz1 hk1 hS1 => ?_)
    subst hw
    exact h H1 locs1 ls ⟨hM, hLo, jS_cons (jsl_jr0 hk).2 (jS_tl hSo), jPk hP hk1, hS1, hh⟩
  · rcases S with _ | ⟨x | x | x, _ | ⟨y | y | ⟨_ | _ | _ | _ | _ | _ | _ | _ | _ | _ | a1, k, _ | a3⟩, S⟩⟩ <;> try exact False.elim h
    have hk : k < 5 := jtx_ok (jS_hd (jS_tl hSo))
    obtain ⟨h1, ⟨h2, h3⟩, h⟩ := jcond h
    have hj : x.toNat < jsl k := by omega
    have hxe : ((x.toNat : Nat) : Int) = x := Int.toNat_of_nonneg h2
    have hrun := cq_cha l ad adV k hk x.toNat hj H.size
    rw [hxe] at hrun
    refine va_calli (va_runV (C := RJ0) (b := ad (100 + k)) (As := [.int (Int32.ofInt x)]) (rest := S.map (jva ad)) ⟨hx, hb, hml, hown, hts⟩ hrun
      ⟨callB_of (ws' := wsL_law) 1 hts (jgoodIn (jcons_in (jp_3 (Cond.code yJ0_charAt_5068e cJ0_charAt_5068e 2 (some .char)) (List.mem_of_getElem? (l := wsL_law_r3) (i := 18) rfl)))) rfl rfl rfl (hts _ (jp_3 (Cond.initialized RJ0) (List.mem_of_getElem? (l := wsL_law_r3) (i := 17) rfl))) (hts _ hl) (by decide +kernel) ⟨hf, hlo⟩, hts _ (jp_3 (Cond.instanceMethod yJ0_charAt_5068e) (List.mem_of_getElem? (l := wsL_law_r3) (i := 15) rfl)), hts _ (jp_3 (Cond.selects RJ0 yJ0_charAt_5068e yJ0_charAt_5068e) (List.mem_of_getElem? (l := wsL_law_r3) (i := 16) rfl))⟩ ⟨jbl, vk_recv (adK := fun k => ad (100 + k)) (i := k) hE.2.2.1 hk hS, fun U hU hW => ⟨rfl, jEp hE hS U hU hW⟩⟩ rfl rfl hh.1 rfl (lv_room (by rw [jcats_sum]; exact Nat.le_of_ble_eq_true h1)) hd hro) hS (fun q _ h => Or.inr (Nat.le_trans hS.1 h)) (fun q h => Or.inr (Nat.le_trans hS.1 h)) (fun r u t H1 locs1 ht hvm hw hB hz1 hk1 hS1 => ?_)
    subst hw
    have hr6 := of_decide_eq_true (List.all_eq_true.mp (List.all_eq_true.mp jst_jr k (List.mem_range.mpr hk)) x.toNat (List.mem_range.mpr (jsl_jr hk hj).1))
    exact h H1 locs1 ls ⟨hM, hLo, jS_cons (show jr _ from hr6) (jS_tl (jS_tl hSo)), jPk hP hk1, hS1, hh⟩
end JPrims
-- the machine's own statement of the JVM
def jW (l : Launch) (D : va_G) (cI cZ : ClassId) (ad adV : Nat → Nat) : jX := fun k pc L S M Q => ∀ (p : Program) (e : Env) (s : State) (m : MethodId) (args : Array Value) (below : List Frame) (meth : Method) (c : Code),
  p.tables.exec = Jvm.exec → c.code = jb k → c.maxLocals = jml k → s.vm.findClass (jcn (jo k)) = some m.cls → (∀ w ∈ wsL_law, w.before args s = true) → meth.sig.returnType = jty k → meth.locks = false → va_K D vwCl [(cI, .int), (cZ, .boolean)] s → jE ad adV (jA ad s.heap.size) s s.heap →
  jG p l e (jroom k) s m args below meth c (MQ below (jQ D cI cZ ad Q) args s 0 0 (jA ad s.heap.size)) D cI cZ ad (jml k) 0 0 pc L S M
theorem jargs_in {ad : Nat → Nat} : ∀ (as : List jV) (o i : Nat) (v : jV), (jsl2 as).getD i none = some v → (o + i, jva ad v) ∈ lv_args o (as.map (jva ad)) ∧ v ∈ as
  | [], o, i, v, h => by
    rw [show jsl2 [] = [] from rfl, List.getD_nil] at h
    cases h
  | a :: as, o, i, v, h => by
    have one : ∀ (q : jV), jcat q = 1 → (jsl2 (q :: as)) = some q :: jsl2 as → (jsl2 (q :: as)).getD i none = some v → (o + i, jva ad v) ∈ lv_args o ((q :: as).map (jva ad)) ∧ v ∈ q :: as := by
      intro q hq he h
      rw [he] at h
      have hc : ¬ (jva ad q).category = 2 := by rw [jcat_va, hq]; decide
      rw [List.map_cons, lv_args, if_neg hc]
      rcases i with _ | i
      · cases h
        exact ⟨List.mem_cons_self, List.mem_cons_self⟩
      · obtain ⟨r1, r2⟩ := jargs_in as (o + 1) i v h
        rw [show o + 1 + i = o + (i + 1) by omega] at r1
        exact ⟨List.mem_cons_of_mem _ r1, List.mem_cons_of_mem _ r2⟩
    rcases a with x | x | x
    · exact one _ rfl rfl h
    · have he : jsl2 (.inr (.inl x) :: as) = some (.inr (.inl x)) :: none :: jsl2 as := rfl
      rw [he] at h
      have hc : (jva ad (.inr (.inl x))).category = 2 := rfl
      rw [List.map_cons, lv_args, if_pos hc]
      rcases i with _ | _ | i
      · cases h
        exact ⟨List.mem_cons_self, List.mem_cons_self⟩
      · cases h
      · obtain ⟨r1, r2⟩ := jargs_in as (o + 2) i v h
        rw [show o + 2 + i = o + (i + 1 + 1) by omega] at r1
        exact ⟨List.mem_cons_of_mem _ r1, List.mem_cons_of_mem _ r2⟩
    · exact one _ rfl rfl h
theorem jsl2_len : ∀ as : List jV, (jsl2 as).length = jcats as
  | [] => rfl
  | .inl _ :: as => by show (jsl2 as).length + 1 = 1 + jcats as; rw [jsl2_len as]; omega
  | .inr (.inl _) :: as => by show (jsl2 as).length + 1 + 1 = 2 + jcats as; rw [jsl2_len as]; omega
  | .inr (.inr _) :: as => by show (jsl2 as).length + 1 = 1 + jcats as; rw [jsl2_len as]; omega
theorem jlg_len {ad : Nat → Nat} (as : List jV) : (lg_sl (as.map (jva ad))).length = jcats as := by
  induction as with
  | nil => rfl
  | cons v as ih =>
    rcases v with x | x | x
    · show (lg_sl (as.map (jva ad))).length + 1 = 1 + jcats as; rw [ih]; omega
    · show (lg_sl (as.map (jva ad))).length + 1 + 1 = 2 + jcats as; rw [ih]; omega
    · show (lg_sl (as.map (jva ad))).length + 1 = 1 + jcats as; rw [ih]; omega
theorem jent_get {as : List jV} {n i : Nat} {v : jV} (h : (jent as n).getD i none = some v) : (jsl2 as).getD i none = some v := by
  unfold jent at h
  rw [List.getD_eq_getElem?_getD] at h ⊢
  rcases Nat.lt_or_ge i (jsl2 as).length with q | q
  · rwa [List.getElem?_append_left q] at h
  · rw [List.getElem?_append_right q, List.getElem?_replicate] at h
    split at h <;> cases h
theorem jW_met {l : Launch} {D : va_G} {cI cZ : ClassId} {ad adV : Nat → Nat} {k : Nat} {as : List jV} {M : jM} {Q : jRt} (hk : k < jN) (hv : ∀ v, v ∈ as → jvk v) (hM : jMr M) (hc : jcats as ≤ jml k) (h : jW l D cI cZ ad adV k 0 (jent as (jml k)) [] M Q) : jMet l D cI cZ ad adV k as M Q := by
  intro sz
  obtain ⟨-, -, f3, -, -, f6, -⟩ := jm_facts hk
  refine Met.ofW (cc := jb k) (maxL := jml k) (ret := jty k) f6 rfl ?_
  intro p e s m args below meth c s₁ B hml hq
  obtain ⟨rfl, hsz, hP, hK, hE⟩ := hq
  have hts0 := atoms_spec (ws := jwds k) B.pre
  have hown : s.vm.findClass (jcn (jo k)) = some m.cls := by rw [← f3]; exact findClass_of_methodNamed B.named
  subst hsz
  rw [lg_entry_eq]
  have hl := lv_entry (as.map (jva ad)) (n := jml k) (by rw [jlg_len]; exact hc)
  refine h p e s m _ below meth c B.exec B.bytes hml hown (fun w hw => hts0 w (List.mem_cons_of_mem _ hw)) B.returns B.notSynchronized hK hE s.heap [] _ ⟨hM, fun i v q => hv v (jargs_in (ad := ad) as 0 i v (jent_get q)).2, fun v q => absurd q List.not_mem_nil, hP, va_S.rf, hl.1, hl.2.1, ?_, fun i v q => ?_⟩
  · unfold jent
    rw [List.length_append, List.length_replicate, jsl2_len]
    omega
  · have := (jargs_in (ad := ad) as 0 i v (jent_get q)).1
    rw [Nat.zero_add] at this
    exact hl.2.2 _ this
theorem jW_mono {l : Launch} {D : va_G} {cI cZ : ClassId} {ad adV : Nat → Nat} {k pc : Nat} {L : jLo} {S : List jV} {M : jM} {Q Q' : jRt} (h : jW l D cI cZ ad adV k pc L S M Q) (hq : ∀ r M', Q r M' → Q' r M') : jW l D cI cZ ad adV k pc L S M Q' := by
  intro p e s m args below meth c a1 a2 a3 a4 a5 a6 a7 a8 a9 H locs ls hI T hT X
  obtain ⟨t, b1, o, b2, b3, ⟨⟨r, M', r1, r2, r3⟩, r4⟩, b5⟩ := h p e s m args below meth c a1 a2 a3 a4 a5 a6 a7 a8 a9 H locs ls hI T hT X
  exact ⟨t, b1, o, b2, b3, ⟨⟨r, M', r1, hq r M' r2, r3⟩, r4⟩, b5⟩
theorem jcall_in {k idx tg : Nat} {P : Nat → Bool} (h : jcl.any (fun e => Nat.beq e.1 (jo k) && Nat.beq e.2.1 idx && Nat.beq e.2.2.1 tg && P e.2.2.2.1) = true) : ∃ q : Nat, P q = true ∧ (match q with
    | 0 => jstt tg = true ∧ Cond.methodLink (jcn (jo k)) idx (jy tg) ∈ wsL_law
    | 1 => jstt tg = false ∧ Cond.methodLink (jcn (jo k)) idx (jy tg) ∈ wsL_law
    | _ => jstt tg = true ∧ jo k = 0 ∧ idx = 55 ∧ jy tg = yX1_hasBit) := by
  obtain ⟨e, he, hq⟩ := jany h
  obtain ⟨hq, h4⟩ := jand_t hq
  obtain ⟨hq, h3⟩ := jand_t hq
  obtain ⟨h1, h2⟩ := jand_t hq
  have hp := (jand_t (List.all_eq_true.mp jcl_all e he)).2
  refine ⟨e.2.2.2.1, h4, ?_⟩
  rw [← Nat.eq_of_beq_eq_true h1, ← Nat.eq_of_beq_eq_true h2, ← Nat.eq_of_beq_eq_true h3]
  obtain ⟨e1, e2, e3, q, e5⟩ := e
  dsimp only at hp ⊢
  rcases q with _ | _ | q
  · obtain ⟨p1, p2⟩ := jand_t hp
    exact ⟨p1, List.mem_of_getElem? (of_decide_eq_true p2)⟩
  · obtain ⟨p1, p2⟩ := jand_t hp
    refine ⟨?_, List.mem_of_getElem? (of_decide_eq_true p2)⟩
    cases hb : jstt e3 with
    | false => rfl
    | true => rw [hb] at p1; cases p1
  · obtain ⟨p1, p2⟩ := jand_t hp
    exact ⟨p1, of_decide_eq_true p2⟩
theorem jr_div {x y : Int} (hx : jr x) (hy : jr y) (h : jpos x y) : Int32.ofInt (x / y) = Int32.ofInt x / Int32.ofInt y ∧ jr (x / y) ∧ ¬ Int32.ofInt y = 0 := by
  obtain ⟨h0, h1⟩ := h
  have e1 : x / y = x.tdiv y := (Int.tdiv_eq_ediv_of_nonneg h0).symm
  refine ⟨?_, ?_, fun z => ?_⟩
  · rw [e1, Int32.ofInt_tdiv (by exact hx.1) (by have := hx.2; show x ≤ 2147483647; omega) (by exact hy.1) (by have := hy.2; show y ≤ 2147483647; omega)]
  · have h2 := Int.ediv_nonneg h0 (Int.le_of_lt h1)
    have h3 : x / y ≤ x := Int.ediv_le_self y h0
    exact ⟨by omega, by have := hx.2; omega⟩
  · have := (jr_eq hy jr_0).mp z
    omega
theorem jr_rem {x y : Int} (hx : jr x) (hy : jr y) (h : jpos x y) : Int32.ofInt (x % y) = Int32.ofInt x - Int32.ofInt x / Int32.ofInt y * Int32.ofInt y ∧ jr (x % y) ∧ ¬ Int32.ofInt y = 0 := by
  obtain ⟨d1, -, d3⟩ := jr_div hx hy h
  refine ⟨?_, ?_, d3⟩
  · rw [← d1, ← Int32.ofInt_mul, ← Int32.ofInt_sub, Int.emod_def, Int.mul_comm]
  · have h2 := Int.emod_nonneg x (Int.ne_of_gt h.2)
    have h3 := Int.emod_lt_of_pos x h.2
    exact ⟨by omega, by have := hy.2; omega⟩
theorem jrl_div {x y : Int} (hx : jrl x) (hy : jrl y) (h : jpos x y) : Int64.ofInt (x / y) = Int64.ofInt x / Int64.ofInt y ∧ jrl (x / y) ∧ ¬ Int64.ofInt y = 0 := by
  obtain ⟨h0, h1⟩ := h
  have e1 : x / y = x.tdiv y := (Int.tdiv_eq_ediv_of_nonneg h0).symm
  refine ⟨?_, ?_, fun z => ?_⟩
  · rw [e1, Int64.ofInt_tdiv (by exact hx.1) (by have := hx.2; show x ≤ 9223372036854775807; omega) (by exact hy.1) (by have := hy.2; show y ≤ 9223372036854775807; omega)]
  · have h2 := Int.ediv_nonneg h0 (Int.le_of_lt h1)
    have h3 : x / y ≤ x := Int.ediv_le_self y h0
    exact ⟨by omega, by have := hx.2; omega⟩
  · have := (jrl_eq hy ⟨by decide, by decide⟩ : Int64.ofInt y = Int64.ofInt 0 ↔ y = 0).mp z
    omega
theorem jrl_rem {x y : Int} (hx : jrl x) (hy : jrl y) (h : jpos x y) : Int64.ofInt (x % y) = Int64.ofInt x - Int64.ofInt x / Int64.ofInt y * Int64.ofInt y ∧ jrl (x % y) ∧ ¬ Int64.ofInt y = 0 := by
  obtain ⟨d1, -, d3⟩ := jrl_div hx hy h
  refine ⟨?_, ?_, d3⟩
  · rw [← d1, ← Int64.ofInt_mul, ← Int64.ofInt_sub, Int.emod_def, Int.mul_comm]
  · have h2 := Int.emod_nonneg x (Int.ne_of_gt h.2)
    have h3 := Int.emod_lt_of_pos x h.2
    exact ⟨by omega, by have := hy.2; omega⟩
theorem jrk_ty {k : Nat} (hk : k < jN2) : (jrk k = 0 → jty k = none) ∧ (jrk k = 1 → jty k = some .int) ∧ (jrk k = 2 → jty k = some .long) ∧ (jrk k = 3 → jty k = some (.object "java/lang/String")) ∧ (jrk k = 4 → jty k = some .boolean) := by
  rcases Nat.lt_or_ge k jN with hk | hk2
  · have h := (jm_facts hk).2.2.2.2.2.2
    refine ⟨fun q => ?_, fun q => ?_, fun q => ?_, fun q => ?_, fun q => ?_⟩ <;> rw [q] at h
    · exact of_decide_eq_true h
    · exact of_decide_eq_true h
    · exact of_decide_eq_true h
    · exact of_decide_eq_true h
    · exact (of_decide_eq_true h).2
  · have e : k = jN := Nat.le_antisymm (Nat.le_of_lt_succ hk) hk2
    subst e
    exact ⟨fun q => absurd q (by decide +kernel), fun q => absurd q (by decide +kernel), fun q => absurd q (by decide +kernel), fun q => absurd q (by decide +kernel), fun _ => rfl⟩
section JRets
variable {p : Program} {l : Launch} {e : Env} {R : Room} {s : State} {m : MethodId} {args : Array Value} {below : List Frame} {meth : Method} {c : Code} {D : va_G} {cI cZ : ClassId} {ad adV : Nat → Nat} {nL : Nat} {cc : ByteArray} {pc : Nat} {L : jLo} {S : List jV} {M : jM} {Q : jRt}
theorem jend {H : Heap} {locs : List Loc} {ls : Array Slot} {r : Option jV} (hI : jInv D cI cZ ad s nL L S M H locs ls) (hr : ∀ v, r = some v → jvk v) (hq : Q r M) : ∀ t : State, t.heap = H → s.WarmedH t.vm → jQ D cI cZ ad Q args s (.returned (r.map (jva ad))) t :=
  fun t ht _ => ⟨⟨r, M, rfl, hq, hI.1, hr, by rw [ht]; exact hI.2.2.2.1⟩, hI.2.2.2.2.1.F ht⟩
theorem js_iret (hx : p.tables.exec = Jvm.exec) (hb : c.code = cc) (hlk : meth.locks = false) {rk : Nat} (h1 : rk = 1 → meth.sig.returnType = some .int) (h4 : rk = 4 → meth.sig.returnType = some .boolean) (hd : ClassFile.decode cc pc = .ok (.ireturn, 1)) (h : jo_ret rk S M Q) : (jG p l e R s m args below meth c (MQ below (jQ D cI cZ ad Q) args s 0 0 (jA ad s.heap.size)) D cI cZ ad nL 0 0) pc L S M := by
  intro H locs ls hI
  have hI' := hI
  obtain ⟨hM, hLo, hSo, hP, hS, hh⟩ := hI'
  rcases S with _ | ⟨x | x | x, _ | ⟨y, S⟩⟩
  · rcases rk with _ | _ | _ | _ | _ | rk <;> exact False.elim h
  · rcases rk with _ | _ | _ | _ | _ | rk <;> try exact False.elim h
    · exact W.iret hx hb (h1 rfl) (jend (r := some (.inl x)) hI (fun v e => by cases e; exact jS_hd hSo) h) hS.2.2 hd
    · refine W.zret hx hb (h4 rfl) ?_ (jend (r := some (.inl x)) hI (fun v e => by cases e; exact jS_hd hSo) h.2) hS.2.2 hd
      rcases h.1 with rfl | rfl <;> rfl
  · rcases rk with _ | _ | _ | _ | _ | rk <;> exact False.elim h
  · rcases rk with _ | _ | _ | _ | _ | rk <;> exact False.elim h
  · rcases rk with _ | _ | _ | _ | _ | rk <;> exact False.elim h
  · rcases rk with _ | _ | _ | _ | _ | rk <;> exact False.elim h
  · rcases rk with _ | _ | _ | _ | _ | rk <;> exact False.elim h
theorem js_lret (hx : p.tables.exec = Jvm.exec) (hb : c.code = cc) (hlk : meth.locks = false) (hr : meth.sig.returnType = some .long) (hd : ClassFile.decode cc pc = .ok (.lreturn, 1)) (h : jo_lret S M Q) : (jG p l e R s m args below meth c (MQ below (jQ D cI cZ ad Q) args s 0 0 (jA ad s.heap.size)) D cI cZ ad nL 0 0) pc L S M := by
  intro H locs ls hI
  have hI' := hI
  obtain ⟨hM, hLo, hSo, hP, hS, hh⟩ := hI'
  rcases S with _ | ⟨x | x | x, _ | ⟨y, S⟩⟩ <;> try exact False.elim h
  exact W.lret hx hb hr (jend (r := some (.inr (.inl x))) hI (fun v e => by cases e; exact jS_hd hSo) h) hS.2.2 hd
theorem js_aret (hx : p.tables.exec = Jvm.exec) (hb : c.code = cc) (hlk : meth.locks = false) {ty : String} (hr : meth.sig.returnType = some (.object ty)) (hd : ClassFile.decode cc pc = .ok (.areturn, 1)) (h : jo_aret S M Q) : (jG p l e R s m args below meth c (MQ below (jQ D cI cZ ad Q) args s 0 0 (jA ad s.heap.size)) D cI cZ ad nL 0 0) pc L S M := by
  intro H locs ls hI
  have hI' := hI
  obtain ⟨hM, hLo, hSo, hP, hS, hh⟩ := hI'
  rcases S with _ | ⟨x | x | ⟨a1, a2, a3⟩, _ | ⟨y, S⟩⟩ <;> try exact False.elim h
  exact W.aret hx hb hr (Or.inl ⟨_, rfl⟩) (Or.inr ⟨_, rfl⟩) (jend (r := some (.inr (.inr (a1, a2, a3)))) hI (fun v e => by cases e; exact jS_hd hSo) h) hS.2.2 hd
theorem js_vret (hx : p.tables.exec = Jvm.exec) (hb : c.code = cc) (hlk : meth.locks = false) (hr : meth.sig.returnType = none) (hd : ClassFile.decode cc pc = .ok (.return_, 1)) (h : jo_vret S M Q) : (jG p l e R s m args below meth c (MQ below (jQ D cI cZ ad Q) args s 0 0 (jA ad s.heap.size)) D cI cZ ad nL 0 0) pc L S M := by
  intro H locs ls hI
  have hI' := hI
  obtain ⟨hM, hLo, hSo, hP, hS, hh⟩ := hI'
  rcases S with _ | ⟨x, S⟩ <;> try exact False.elim h
  exact W.vret hx hb hr (jend (r := none) hI (fun v e => by cases e) h) hS.2.2 hd
end JRets
