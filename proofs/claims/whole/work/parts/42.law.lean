-- The law: its head (the skeleton's), its calls with its locals kept, its loop
def R_law : String := "LarderAgesLaw"
def lw_P (b : Addr) (xs : List Int32) (args : Array Value) (s : State) : Prop := args = #[.ref b] ∧ s.IntsAt b xs ∧ xs.length ≤ 2560 ∧ (Jvm.Cond.and given_1 narrow_1).before args s = true
def lw_Q (_ : Array Value) (s : State) (o : Outcome) (t : State) : Prop := o = .returned (some (.int 1)) ∧ Framed s o t [] 37 697
def lw_Z (below : List Frame) (a : Array Value) (s : State) : State → Prop := fun t => ∃ o, t.status = .running ∧ Ended t below o ∧ lw_Q a s o t
/-- the law's own end, with 1 on the stack, nothing written that was there before, its room as the claim has it -/
theorem lw_ret {p : Program} {l : Launch} {e : Env} {s : State} {m : MethodId} {below : List Frame} {meth : Method} {c : Code} {b : Nat} (hx : p.tables.exec = Jvm.exec) (hb : c.code = code) (hr : meth.sig.returnType = ret) (hlocks : meth.locks = false) {pc : Nat} {H : Heap} {ls : Array Slot} (hdg : decode code pc = .ok (.ireturn, 1)) : W p l e room_1 s m #[Value.ref b] below meth c H [] 37 697 (lw_Z below #[Value.ref b] s) (F0 m pc ls [.int 1]) := by
  intro T hT X
  obtain ⟨fs, hret, hrun, hended, hW, hframe⟩ := X.leave (v := some (.int 1)) (hlocks := hlocks) (fun h => by rw [hr] at h; cases h)
  have hmeth' : T.vm.method? m = some meth := X.method'
  refine ⟨T.setFrames fs, ?_, .returned (some (.int 1)), hrun, hended, rfl, ⟨_, rfl⟩, hW, hframe⟩
  jvm_step X.here [X.here.top, hx, hb, hdg, hmeth', hr, ret, narrow_b1]
  (try refine ⟨rfl, ?_⟩); (try refine ⟨rfl, ?_⟩)
  first | (intro acts; rw [hret _ acts rfl rfl rfl]) | rw [hret _ _ rfl rfl rfl]
  exact Steps.refl _
/-- what holds at the law's entry: the machine, the code, the tables' words (any of lw_tbl by 'hts w (by decide +kernel)'), the script of L ints xs at the cell b, what the Statement gives of the start (any of its parts by flat_of_before) -/
def lw_At (p : Program) (s : State) (m : MethodId) (meth : Method) (c : Code) (b L : Nat) (xs : Nat → Int32) : Prop :=
  p.tables.exec = Jvm.exec ∧ c.code = code ∧ meth.sig.returnType = ret ∧ c.maxLocals = 4 ∧ s.vm.findClass R_law = some m.cls ∧ (∀ w ∈ lw_tbl, w.before #[Value.ref b] s = true) ∧ va_X b L xs s s.heap ∧ b < s.heap.size ∧ meth.locks = false ∧ (Jvm.Cond.and given_1 narrow_1).before #[Value.ref b] s = true
def lwc (pc : Nat) (ins : ClassFile.Instr) (n tg : Nat) : Bool := decide (jcL_law pc = some (ins, pc + n, tg, []))
theorem lwc_at {pc n tg : Nat} {ins : ClassFile.Instr} (h : lwc pc ins n tg = true) : jcode 186 pc = some (ins, pc + n, tg, []) := of_decide_eq_true h
set_option maxRecDepth 20000 in
theorem lwc_de {pc n tg : Nat} {ins : ClassFile.Instr} (h : lwc pc ins n tg = true) : ClassFile.decode code pc = .ok (ins, n) := by
  have h1 := jchk_of (lwc_at h)
  obtain ⟨h2, -⟩ := jand_t h1
  obtain ⟨h2, -⟩ := jand_t h2
  obtain ⟨h2, -⟩ := jand_t h2
  have h3 : ClassFile.decode code pc = .ok (ins, pc + n - pc) := of_decide_eq_true h2
  rwa [Nat.add_sub_cancel_left] at h3
def lwAr (pc k : Nat) : Bool := lwc pc (.aload_n 0) 1 0 && lwc (pc + 1) (.iload_n 3) 1 0 && lwc (pc + 1 + 1) (.iconst (k : Int)) 1 0 && lwc (pc + 1 + 1 + 1) .iadd 1 0 && lwc (pc + 1 + 1 + 1 + 1) .iaload 1 0
def lwArs (pc n : Nat) : Bool := (List.range n).all (fun q => lwAr (pc + 5 * q) (q + 1))
/-- the two calls of a case -/
def lwCa (pc n idx idx2 mid mid2 : Nat) : Bool := lwc pc (.aload_n 1) 1 0 && lwArs (pc + 1) n && lwc (pc + 1 + 5 * n) (.invokevirtual idx) 3 mid && lwc (pc + 1 + 5 * n + 3) (.aload_n 2) 1 0 && lwArs (pc + 1 + 5 * n + 3 + 1) n && lwc (pc + 1 + 5 * n + 3 + 1 + 5 * n) (.invokevirtual idx2) 3 mid2 && (Nat.beq (jna mid) (n + 1) && Nat.beq (jna mid2) (n + 1)) && (Nat.ble (n + 1) (jml mid) && Nat.ble (n + 1) (jml mid2)) && (Nat.beq (jo mid) 1 && Nat.beq (jo mid2) 2)
def lwCs (pc n idx idx2 mid mid2 : Nat) : Bool := lwCa pc n idx idx2 mid mid2 && lwc (pc + 1 + 5 * n + 3 + 1 + 5 * n + 3) (.if_icmp .eq (1176 - ((pc + 1 + 5 * n + 3 + 1 + 5 * n + 3 : Nat) : Int))) 3 1176
def lwCL (pc n idx idx2 mid mid2 : Nat) : Bool := lwCa pc n idx idx2 mid mid2 && lwc (pc + 1 + 5 * n + 3 + 1 + 5 * n + 3) .lcmp 1 0 && lwc (pc + 1 + 5 * n + 3 + 1 + 5 * n + 3 + 1) (.ifCond .eq (1176 - ((pc + 1 + 5 * n + 3 + 1 + 5 * n + 3 + 1 : Nat) : Int))) 3 1176
theorem lwk_0 : lwCs 200 1 13 17 27 124 = true := by decide +kernel
theorem lwk_1 : lwCs 223 0 18 22 28 132 = true := by decide +kernel
theorem lwk_2 : lwCs 236 2 23 27 44 133 = true := by decide +kernel
theorem lwk_3 : lwCs 269 0 28 31 45 134 = true := by decide +kernel
theorem lwk_4 : lwCs 282 2 32 35 46 137 = true := by decide +kernel
theorem lwk_5 : lwCs 315 1 36 39 47 138 = true := by decide +kernel
theorem lwk_6 : lwCs 338 2 40 43 48 140 = true := by decide +kernel
theorem lwk_7 : lwCs 371 1 44 47 49 141 = true := by decide +kernel
theorem lwk_8 : lwCs 394 3 48 52 50 142 = true := by decide +kernel
theorem lwk_9 : lwCs 437 1 53 56 51 143 = true := by decide +kernel
theorem lwk_10 : lwCs 460 1 57 60 52 145 = true := by decide +kernel
theorem lwk_11 : lwCs 483 2 61 64 53 146 = true := by decide +kernel
theorem lwk_12 : lwCs 516 1 65 68 54 147 = true := by decide +kernel
theorem lwk_13 : lwCs 539 1 69 72 55 150 = true := by decide +kernel
theorem lwk_14 : lwCs 562 1 73 76 56 151 = true := by decide +kernel
theorem lwk_15 : lwCs 585 3 77 80 64 152 = true := by decide +kernel
theorem lwk_16 : lwCs 628 1 81 84 65 153 = true := by decide +kernel
theorem lwk_17 : lwCs 651 2 85 88 66 154 = true := by decide +kernel
theorem lwk_18 : lwCs 684 0 89 92 68 157 = true := by decide +kernel
theorem lwk_19 : lwCs 697 1 93 96 69 158 = true := by decide +kernel
theorem lwk_20 : lwCs 720 0 97 100 70 160 = true := by decide +kernel
theorem lwk_21 : lwCs 733 0 101 104 71 162 = true := by decide +kernel
theorem lwk_22 : lwCs 746 1 105 108 72 164 = true := by decide +kernel
theorem lwk_23 : lwCs 769 1 109 112 73 165 = true := by decide +kernel
theorem lwk_24 : lwCs 792 1 113 116 74 167 = true := by decide +kernel
theorem lwk_25 : lwCs 815 4 117 121 67 168 = true := by decide +kernel
theorem lwk_26 : lwCs 868 0 122 125 75 169 = true := by decide +kernel
theorem lwk_27 : lwCs 881 3 126 129 76 171 = true := by decide +kernel
theorem lwk_28 : lwCL 924 4 130 134 79 175 = true := by decide +kernel
theorem lwk_29 : lwCL 978 1 135 139 80 176 = true := by decide +kernel
theorem lwk_30 : lwCs 1002 2 140 143 85 177 = true := by decide +kernel
theorem lwk_31 : lwCs 1035 1 144 147 86 178 = true := by decide +kernel
theorem lwk_32 : lwCs 1058 0 148 151 87 179 = true := by decide +kernel
theorem lwk_33 : lwCs 1071 0 152 155 88 180 = true := by decide +kernel
theorem lwk_34 : lwCs 1084 3 156 159 92 182 = true := by decide +kernel
theorem lwk_35 : lwCs 1127 0 160 163 96 183 = true := by decide +kernel
theorem lwk_36 : lwCs 1140 0 164 167 97 184 = true := by decide +kernel
theorem lwk_37 : lwCs 1153 1 168 171 98 185 = true := by decide +kernel
theorem lw_sw : ClassFile.decode code 32 = .ok (.tableswitch 1144 0 37 #[168, 191, 204, 237, 250, 283, 306, 339, 362, 405, 428, 451, 484, 507, 530, 553, 596, 619, 652, 665, 688, 701, 714, 737, 760, 783, 836, 849, 892, 946, 970, 1003, 1026, 1039, 1052, 1095, 1108, 1121], 168) := by decide +kernel
section LawRows
variable {p : Program} {l : Launch} {e : Env} {s : State} {m : MethodId} {below : List Frame} {meth : Method} {c : Code} {b L : Nat} {xs : Nat → Int32} {D : va_G} {cI cZ : ClassId} {ad adV : Nat → Nat}
abbrev lwW (p : Program) (l : Launch) (e : Env) (s : State) (m : MethodId) (below : List Frame) (meth : Method) (c : Code) (b : Nat) (pc : Nat) (ls : Array Slot) (st : List Value) (H : Heap) (locs : List Loc) : Prop := W p l e room_1 s m #[Value.ref b] below meth c H locs 37 697 (lw_Z below #[Value.ref b] s) (F0 m pc ls st)
def lwE (p : Program) (s : State) (m : MethodId) (meth : Method) (c : Code) (b L : Nat) (xs : Nat → Int32) (D : va_G) (cI cZ : ClassId) (ad adV : Nat → Nat) : Prop :=
  lw_At p s m meth c b L xs ∧ L ≤ 2560 ∧ va_K D vwCl [(cI, .int), (cZ, .boolean)] s ∧ jE ad adV (jA ad s.heap.size) s s.heap ∧ (∀ i j, i < 37 → j < 37 → ad i = ad j → i = j) ∧ (∀ k, k < 37 → s.heap.size ≤ ad k)
def lwL (b : Nat) (ad : Nat → Nat) (i : Nat) (ls : Array Slot) : Prop := lv_has ls 4 [(0, .ref b), (1, .ref (ad 24)), (2, .ref (ad 28)), (3, .int (Int32.ofInt (i : Int)))]
theorem lw_bA (hbl : b < s.heap.size) (hge : ∀ k, k < 37 → s.heap.size ≤ ad k) : ¬ jA ad s.heap.size b := by
  rintro (⟨k, h1, h2⟩ | h)
  · have := hge k h1; omega
  · omega
theorem lw_arg (E : lwE p s m meth c b L xs D cI cZ ad adV) {pc k i : Nat} (hc : lwAr pc k = true) (hi : i + k < L) {H : Heap} {locs : List Loc} {ls : Array Slot} (hl : lwL b ad i ls) (hS : va_S (jA ad s.heap.size) s.heap H locs) {rest : List Value}
    (kk : lwW p l e s m below meth c b (pc + 1 + 1 + 1 + 1 + 1) ls (.int (xs (i + k)) :: rest) H locs) : lwW p l e s m below meth c b pc ls rest H locs := by
  obtain ⟨⟨hx, hb, hr, hml, hown, hts, hX, hbl, hlocks, hgv⟩, hL, hK, hE, hinj, hge⟩ := E
  obtain ⟨hc, c5⟩ := jand_t hc
  obtain ⟨hc, c4⟩ := jand_t hc
  obtain ⟨hc, c3⟩ := jand_t hc
  obtain ⟨c1, c2⟩ := jand_t hc
  have hbA := lw_bA hbl hge
  refine lv_aload_n hx hb (lwc_de c1) rfl (lv_at hl 0 rfl) ?_
  refine lv_iload_n hx hb (lwc_de c2) rfl (lv_at hl 3 rfl) ?_
  refine lv_iconst (v := Int32.ofInt (k : Int)) hx hb (lwc_de c3) rfl ?_
  refine lv_iadd hx hb (lwc_de c4) ?_
  have e1 : Int32.ofInt (i : Int) + Int32.ofInt (k : Int) = Int32.ofInt ((i + k : Nat) : Int) := by rw [← Int32.ofInt_add]; rfl
  rw [e1]
  have hj : jr ((i + k : Nat) : Int) := ⟨by omega, by omega⟩
  refine va_sld hx hb hX hbl hbA hS (jr_in hj (by omega) (by omega)) (lwc_de c5) ?_
  rw [jr_cl hj, Int.toNat_natCast]
  exact kk
theorem lw_args (E : lwE p s m meth c b L xs D cI cZ ad adV) {pc i : Nat} {H : Heap} {locs : List Loc} {ls : Array Slot} (hl : lwL b ad i ls) (hS : va_S (jA ad s.heap.size) s.heap H locs) {rest : List Value} : ∀ n, lwArs pc n = true → i + n < L →
    lwW p l e s m below meth c b (pc + 5 * n) ls (((List.range n).map (fun q => Value.int (xs (i + 1 + q)))).reverse ++ rest) H locs → lwW p l e s m below meth c b pc ls rest H locs := by
  intro n
  induction n with
  | zero => exact fun _ _ k => k
  | succ n ih =>
    intro h hi k
    have h1 : ∀ q, q < n + 1 → lwAr (pc + 5 * q) (q + 1) = true := fun q hq => List.all_eq_true.mp h q (List.mem_range.mpr hq)
    refine ih (List.all_eq_true.mpr fun q hq => h1 q (by have := List.mem_range.mp hq; omega)) (by omega) ?_
    refine lw_arg E (h1 n (by omega)) (by omega) hl hS ?_
    rw [List.range_succ, List.map_append, List.reverse_append] at k
    have e1 : i + (n + 1) = i + 1 + n := by omega
    rw [e1]
    exact k
theorem lw_callV (E : lwE p s m meth c b L xs D cI cZ ad adV) {mid idx pc o : Nat} (hc : lwc pc (.invokevirtual idx) 3 mid = true) {as : List Int} (hna : jna mid = as.length + 1) (hcat : as.length + 1 ≤ jml mid) (ho : jo mid = o) (ho2 : o = 1 ∨ o = 2) (hv : ∀ x, x ∈ as → jr x) {M : jM} {H : Heap} {locs : List Loc} {ls : Array Slot} (hM : jMr M) (hP : va_P D vwCl (jws cI cZ ad M) H) (hS : va_S (jA ad s.heap.size) s.heap H locs) (hls : ls.size = 4) {rest : List Value} (hrest : (rest.map fun v => v.category).sum ≤ 8) {Q : jRt} (q : jCall mid (jR o 0 0 :: as.map jI) M Q)
    (kk : ∀ (r : Option jV) (M' : jM) (H1 : Heap) (locs1 : List Loc), Q r M' → jMr M' → va_P D vwCl (jws cI cZ ad M') H1 → va_S (jA ad s.heap.size) s.heap H1 locs1 → lwW p l e s m below meth c b (pc + 3) ls ((r.map (jva ad)).toList ++ rest) H1 locs1) : lwW p l e s m below meth c b pc ls ((as.map (fun x => Value.int (Int32.ofInt x))).reverse ++ .ref (ad (jix o 0 0)) :: rest) H locs := by
  obtain ⟨⟨hx, hb, hr, hml, hown, hts, hX, hbl, hlocks, hgv⟩, hL, hK, hE, hinj, hge⟩ := E
  have hts' : ∀ w ∈ wsL_law, w.before #[Value.ref b] s = true := fun w h => hts w (wsL_law_in w h)
  have hd := lwc_de hc
  obtain ⟨-, h2⟩ := jand_t (jchk_of (lwc_at hc))
  obtain ⟨h2, hk⟩ := jand_t h2
  obtain ⟨h2, hlo⟩ := jand_t h2
  obtain ⟨h2, hf⟩ := jand_t h2
  obtain ⟨q1, e1, hm⟩ := jcall_in (k := 186) (P := fun q => Nat.beq q 1) h2
  have e1 : q1 = 1 := Nat.eq_of_beq_eq_true e1
  subst e1
  have hk : mid < jN := Nat.blt_eq.mp hk
  have hsum : ∀ as : List Int, jcats (as.map jI) = as.length := by
    intro as
    induction as with
    | nil => rfl
    | cons x as ih => simp only [List.map_cons, jcats, List.length_cons, ih]; show 1 + _ = _; omega
  have hokk : jok o 0 0 := by
    rcases ho2 with rfl | rfl
    · exact Or.inr (Or.inl ⟨rfl, rfl, by decide⟩)
    · exact Or.inr (Or.inr (Or.inl ⟨rfl, rfl, by decide⟩))
  have hsh : jshp o 0 = .inr (.inr o) := by
    rcases ho2 with rfl | rfl <;> rfl
  have hv' : ∀ v, v ∈ jR o 0 0 :: as.map jI → jvk v := by
    intro v hvv
    rcases List.mem_cons.mp hvv with rfl | hvv
    · exact Or.inl hokk
    · obtain ⟨x, h1, rfl⟩ := List.mem_map.mp hvv
      exact hv x h1
  have hcs : jcats (jR o 0 0 :: as.map jI) ≤ jml mid := by
    show 1 + jcats (as.map jI) ≤ _
    rw [hsum]; omega
  have hmet := jmet (l := l) (D := D) (cI := cI) (cZ := cZ) (ad := ad) (adV := adV) hinj hk hv' hM hcs q
  obtain ⟨-, f2, f3, f4, f5, -, -⟩ := jm_facts hk
  obtain ⟨w1, w2, w3⟩ := f2 hm.1
  have cb := jcallB (R := room_1) (s := s) (args := #[Value.ref b]) (own := RL) (idx := idx) hk hts' (Nat.le_trans (Nat.le_of_ble_eq_true hf) (by decide)) (Nat.le_trans (Nat.le_of_ble_eq_true hlo) (by decide)) hm.2
  rw [hm.1] at cb
  have hw := jws_at cI cZ ad M hokk
  rw [jcell_ob hsh] at hw
  subst ho
  refine jback (rest := rest) (va_runV (C := jcn (jo mid)) (b := ad (jix (jo mid) 0 0)) (As := (as.map jI).map (jva ad)) ⟨hx, hb, hml, hown, hts'⟩ (hmet H.size) ⟨cb, hts' _ w1, hts' _ w2⟩ ⟨jblind, va_recv hK hP (jcl_at f5) hw, jpre hP hK hE hS _⟩ rfl (by
    simp only [List.length_map, Bool.false_eq_true, if_false]
    omega) hls (by
    rw [List.map_map]
    rfl) (lv_room hrest) hd ⟨by decide, by decide⟩) hS (fun r M' H1 locs1 hq hm hrv hp hS1 => kk r M' H1 locs1 hq hm hp hS1)
theorem lw_xs {n i : Nat} : (List.range n).map (fun q => Value.int (xs (i + 1 + q))) = ((List.range n).map (fun q => (xs (i + 1 + q)).toInt)).map (fun x => Value.int (Int32.ofInt x)) := by
  rw [List.map_map]
  refine List.map_congr_left fun q _ => ?_
  show Value.int _ = Value.int _
  rw [jr_o]
theorem lw_two (E : lwE p s m meth c b L xs D cI cZ ad adV) {pc n idx idx2 mid mid2 i : Nat} (hc : lwCa pc n idx idx2 mid mid2 = true) {M : jM} {H : Heap} {locs : List Loc} {ls : Array Slot} (hi : i + n < L) (hl : lwL b ad i ls) (hM : jMr M) (hP : va_P D vwCl (jws cI cZ ad M) H) (hS : va_S (jA ad s.heap.size) s.heap H locs) {as : List jV} (has : as = ((List.range n).map (fun q => (xs (i + 1 + q)).toInt)).map jI) {Q : jRt} {Q2 : Option jV → jRt}
    (q : jCall mid (jR 1 0 0 :: as) M Q) (q2 : ∀ r M1, Q r M1 → (((r.map (jva ad)).toList).map fun v => v.category).sum ≤ 8 ∧ jCall mid2 (jR 2 0 0 :: as) M1 (Q2 r))
    (kk : ∀ (r r2 : Option jV) (M1 M' : jM) (H1 : Heap) (locs1 : List Loc), Q r M1 → Q2 r r2 M' → jMr M' → va_P D vwCl (jws cI cZ ad M') H1 → va_S (jA ad s.heap.size) s.heap H1 locs1 → lwW p l e s m below meth c b (pc + 1 + 5 * n + 3 + 1 + 5 * n + 3) ls ((r2.map (jva ad)).toList ++ (r.map (jva ad)).toList) H1 locs1) : lwW p l e s m below meth c b pc ls [] H locs := by
  subst has
  obtain ⟨hc, c9⟩ := jand_t hc
  obtain ⟨hc, c8⟩ := jand_t hc
  obtain ⟨hc, c7⟩ := jand_t hc
  obtain ⟨hc, c6⟩ := jand_t hc
  obtain ⟨hc, c5⟩ := jand_t hc
  obtain ⟨hc, c4⟩ := jand_t hc
  obtain ⟨hc, c3⟩ := jand_t hc
  obtain ⟨c1, c2⟩ := jand_t hc
  obtain ⟨o1, o2⟩ := jand_t c9
  obtain ⟨m1, m2⟩ := jand_t c8
  obtain ⟨n1, n2⟩ := jand_t c7
  have hlen : ((List.range n).map (fun q => (xs (i + 1 + q)).toInt)).length = n := by simp
  have hjr : ∀ x, x ∈ (List.range n).map (fun q => (xs (i + 1 + q)).toInt) → jr x := by
    intro x hx
    obtain ⟨q, -, rfl⟩ := List.mem_map.mp hx
    exact jr_r _
  have E0 := E
  obtain ⟨⟨hx, hb, hr, hml, hown, hts, hX, hbl, hlocks, hgv⟩, hL, hK, hE, hinj, hge⟩ := E0
  refine lv_aload_n hx hb (lwc_de c1) rfl (lv_at hl 1 rfl) ?_
  refine lw_args E hl hS n c2 hi ?_
  rw [lw_xs]
  refine lw_callV E (o := 1) (rest := []) c3 (by rw [hlen]; exact Nat.eq_of_beq_eq_true n1) (by rw [hlen]; exact Nat.le_of_ble_eq_true m1) (Nat.eq_of_beq_eq_true o1) (Or.inl rfl) hjr hM hP hS hl.1 (by decide) q (fun r M1 H1 locs1 hq hM1 hP1 hS1 => ?_)
  obtain ⟨hcat, q3⟩ := q2 r M1 hq
  rw [List.append_nil]
  refine lv_aload_n hx hb (lwc_de c4) rfl (lv_at hl 2 rfl) ?_
  refine lw_args E hl hS1 n c5 hi ?_
  rw [lw_xs]
  exact lw_callV E (o := 2) (rest := (r.map (jva ad)).toList) c6 (by rw [hlen]; exact Nat.eq_of_beq_eq_true n2) (by rw [hlen]; exact Nat.le_of_ble_eq_true m2) (Nat.eq_of_beq_eq_true o2) (Or.inr rfl) hjr hM1 hP1 hS1 hl.1 hcat q3 (fun r2 M' H2 locs2 hq2 hM2 hP2 hS2 => kk r r2 M1 M' H2 locs2 hq hq2 hM2 hP2 hS2)
theorem lw_case (E : lwE p s m meth c b L xs D cI cZ ad adV) {pc n idx idx2 mid mid2 i : Nat} {t : Int} (hc : lwCs pc n idx idx2 mid mid2 = true) {M : jM} {H : Heap} {locs : List Loc} {ls : Array Slot} (hi : i + n < L) (hl : lwL b ad i ls) (hM : jMr M) (hP : va_P D vwCl (jws cI cZ ad M) H) (hS : va_S (jA ad s.heap.size) s.heap H locs)
    (pp : pP t mid mid2 (((List.range n).map (fun q => (xs (i + 1 + q)).toInt)).map jI) M)
    (next : ∀ (H : Heap) (locs : List Loc) (M' : jM) (s' : jT), sim (t + 1) M' s' → jMr M' → va_P D vwCl (jws cI cZ ad M') H → va_S (jA ad s.heap.size) s.heap H locs → lwW p l e s m below meth c b 1176 ls [] H locs) : lwW p l e s m below meth c b pc ls [] H locs := by
  obtain ⟨ca, cb⟩ := jand_t hc
  refine lw_two E ca hi hl hM hP hS rfl (Q2 := fun r => jqi (fun y' M' => ∃ y, r = some (jI y) ∧ en t y y' M')) pp (fun r M1 hq => ?_) (fun r r2 M1 M' H1 locs1 hq hq2 hM1 hP1 hS1 => ?_)
  · obtain ⟨y, rfl, h⟩ := hq
    refine ⟨Nat.le_of_ble_eq_true rfl, ?_⟩
    refine jCall_mono h (fun r' M' hr => ?_)
    obtain ⟨y', rfl, h'⟩ := hr
    exact ⟨y', rfl, y, rfl, h'⟩
  · obtain ⟨y', rfl, y, rfl, e1, s', hs⟩ := hq2
    subst e1
    obtain ⟨⟨hx, hb, hr, hml, hown, hts, hX, hbl, hlocks, hgv⟩, hL, hK, hE, hinj, hge⟩ := E
    exact lv_icmp_eq (tgt := 1176) hx hb (lwc_de cb) (by omega) (fun _ => next H1 locs1 M' s' hs hM1 hP1 hS1) (fun z => absurd rfl z)
theorem lw_caseL (E : lwE p s m meth c b L xs D cI cZ ad adV) {pc n idx idx2 mid mid2 i : Nat} {t : Int} (hc : lwCL pc n idx idx2 mid mid2 = true) {M : jM} {H : Heap} {locs : List Loc} {ls : Array Slot} (hi : i + n < L) (hl : lwL b ad i ls) (hM : jMr M) (hP : va_P D vwCl (jws cI cZ ad M) H) (hS : va_S (jA ad s.heap.size) s.heap H locs)
    (pp : pL t mid mid2 (((List.range n).map (fun q => (xs (i + 1 + q)).toInt)).map jI) M)
    (next : ∀ (H : Heap) (locs : List Loc) (M' : jM) (s' : jT), sim (t + 1) M' s' → jMr M' → va_P D vwCl (jws cI cZ ad M') H → va_S (jA ad s.heap.size) s.heap H locs → lwW p l e s m below meth c b 1176 ls [] H locs) : lwW p l e s m below meth c b pc ls [] H locs := by
  obtain ⟨ca, cd⟩ := jand_t hc
  obtain ⟨ca, cb⟩ := jand_t ca
  refine lw_two E ca hi hl hM hP hS rfl (Q2 := fun r => jql (fun y' M' => ∃ y, r = some (jL y) ∧ en t y y' M')) pp (fun r M1 hq => ?_) (fun r r2 M1 M' H1 locs1 hq hq2 hM1 hP1 hS1 => ?_)
  · obtain ⟨y, rfl, h⟩ := hq
    refine ⟨Nat.le_of_ble_eq_true rfl, ?_⟩
    refine jCall_mono h (fun r' M' hr => ?_)
    obtain ⟨y', rfl, h'⟩ := hr
    exact ⟨y', rfl, y, rfl, h'⟩
  · obtain ⟨y', rfl, y, rfl, e1, s', hs⟩ := hq2
    subst e1
    obtain ⟨⟨hx, hb, hr, hml, hown, hts, hX, hbl, hlocks, hgv⟩, hL, hK, hE, hinj, hge⟩ := E
    refine W.lcmp hx hb (lwc_de cb) ?_
    have e2 : ∀ x : Int64, lg_cmp x x = 0 := by
      intro x
      unfold lg_cmp
      rw [if_neg Int64.lt_irrefl, if_pos rfl]
    rw [e2]
    exact lv_if_eq (tgt := 1176) hx hb (lwc_de cd) (by omega) (fun _ => next H1 locs1 M' s' hs hM1 hP1 hS1) (fun z => absurd rfl z)
theorem lw_switch (E : lwE p s m meth c b L xs D cI cZ ad adV) {i : Nat} {t : Int} {v : Int32} {M : jM} {S : jT} {H0 : Heap} {locs0 : List Loc} {ls : Array Slot} (hi : i + 5 ≤ L) (ht : t < 1000) (hl : lwL b ad i ls) (H : sim t M S) (hM : jMr M) (hP : va_P D vwCl (jws cI cZ ad M) H0) (hS : va_S (jA ad s.heap.size) s.heap H0 locs0)
    (hnx : ∀ (H : Heap) (locs : List Loc) (M' : jM) (s' : jT), sim (t + 1) M' s' → jMr M' → va_P D vwCl (jws cI cZ ad M') H → va_S (jA ad s.heap.size) s.heap H locs → lwW p l e s m below meth c b 1176 ls [] H locs) : lwW p l e s m below meth c b 32 ls [.int v] H0 locs0 := by
  have E0 := E
  obtain ⟨⟨hx, hb, hr, hml, hown, hts, hX, hbl, hlocks, hgv⟩, hL, hK, hE, hinj, hge⟩ := E0
  by_cases hv : v.toInt < 0 ∨ 37 < v.toInt
  · refine lv_tableOut (tgt := 1176) hx hb lw_sw hv (by decide) (hnx H0 locs0 M S ?_ hM hP hS)
    exact sim_t H ht jth_rf
  · obtain ⟨k, hk⟩ : ∃ k : Nat, v.toInt = k := ⟨v.toInt.toNat, by omega⟩
    have hk2 : k < 38 := by omega
    rcases k with _ | _ | _ | _ | _ | _ | _ | _ | _ | _ | _ | _ | _ | _ | _ | _ | _ | _ | _ | _ | _ | _ | _ | _ | _ | _ | _ | _ | _ | _ | _ | _ | _ | _ | _ | _ | _ | _ | k
    · exact lv_tableIn hx hb lw_sw (off := 168) (tgt := 200) (by rw [hk]; decide) (by rw [hk]; decide) (by rw [hk]; rfl) (by decide) (lw_case E lwk_0 (by omega) hl hM hP hS (p_letter H ht ((xs (i + 1 + 0)).toInt)) hnx)
    · exact lv_tableIn hx hb lw_sw (off := 191) (tgt := 223) (by rw [hk]; decide) (by rw [hk]; decide) (by rw [hk]; rfl) (by decide) (lw_case E lwk_1 (by omega) hl hM hP hS (p_larder H ht) hnx)
    · exact lv_tableIn hx hb lw_sw (off := 204) (tgt := 236) (by rw [hk]; decide) (by rw [hk]; decide) (by rw [hk]; rfl) (by decide) (lw_case E lwk_2 (by omega) hl hM hP hS (p_jar H ht ((xs (i + 1 + 0)).toInt) ((xs (i + 1 + 1)).toInt)) hnx)
    · exact lv_tableIn hx hb lw_sw (off := 237) (tgt := 269) (by rw [hk]; decide) (by rw [hk]; decide) (by rw [hk]; rfl) (by decide) (lw_case E lwk_3 (by omega) hl hM hP hS (p_known H ht) hnx)
    · exact lv_tableIn hx hb lw_sw (off := 250) (tgt := 282) (by rw [hk]; decide) (by rw [hk]; decide) (by rw [hk]; rfl) (by decide) (lw_case E lwk_4 (by omega) hl hM hP hS (p_moves H ht ((xs (i + 1 + 0)).toInt) ((xs (i + 1 + 1)).toInt)) hnx)
    · exact lv_tableIn hx hb lw_sw (off := 283) (tgt := 315) (by rw [hk]; decide) (by rw [hk]; decide) (by rw [hk]; rfl) (by decide) (lw_case E lwk_5 (by omega) hl hM hP hS (p_shuts H ht ((xs (i + 1 + 0)).toInt)) hnx)
    · exact lv_tableIn hx hb lw_sw (off := 306) (tgt := 338) (by rw [hk]; decide) (by rw [hk]; decide) (by rw [hk]; rfl) (by decide) (lw_case E lwk_6 (by omega) hl hM hP hS (p_eats H ht ((xs (i + 1 + 0)).toInt) ((xs (i + 1 + 1)).toInt)) hnx)
    · exact lv_tableIn hx hb lw_sw (off := 339) (tgt := 371) (by rw [hk]; decide) (by rw [hk]; decide) (by rw [hk]; rfl) (by decide) (lw_case E lwk_7 (by omega) hl hM hP hS (p_folk H ht ((xs (i + 1 + 0)).toInt)) hnx)
    · exact lv_tableIn hx hb lw_sw (off := 362) (tgt := 394) (by rw [hk]; decide) (by rw [hk]; decide) (by rw [hk]; rfl) (by decide) (lw_case E lwk_8 (by omega) hl hM hP hS (p_turn H ht ((xs (i + 1 + 0)).toInt) ((xs (i + 1 + 1)).toInt) ((xs (i + 1 + 2)).toInt)) hnx)
    · exact lv_tableIn hx hb lw_sw (off := 405) (tgt := 437) (by rw [hk]; decide) (by rw [hk]; decide) (by rw [hk]; rfl) (by decide) (lw_case E lwk_9 (by omega) hl hM hP hS (p_years H ht ((xs (i + 1 + 0)).toInt)) hnx)
    · exact lv_tableIn hx hb lw_sw (off := 428) (tgt := 460) (by rw [hk]; decide) (by rw [hk]; decide) (by rw [hk]; rfl) (by decide) (lw_case E lwk_10 (by omega) hl hM hP hS (p_knownThen H ht ((xs (i + 1 + 0)).toInt)) hnx)
    · exact lv_tableIn hx hb lw_sw (off := 451) (tgt := 483) (by rw [hk]; decide) (by rw [hk]; decide) (by rw [hk]; rfl) (by decide) (lw_case E lwk_11 (by omega) hl hM hP hS (p_foodThen H ht ((xs (i + 1 + 0)).toInt) ((xs (i + 1 + 1)).toInt)) hnx)
    · exact lv_tableIn hx hb lw_sw (off := 484) (tgt := 516) (by rw [hk]; decide) (by rw [hk]; decide) (by rw [hk]; rfl) (by decide) (lw_case E lwk_12 (by omega) hl hM hP hS (p_hungerThen H ht ((xs (i + 1 + 0)).toInt)) hnx)
    · exact lv_tableIn hx hb lw_sw (off := 507) (tgt := 539) (by rw [hk]; decide) (by rw [hk]; decide) (by rw [hk]; rfl) (by decide) (lw_case E lwk_13 (by omega) hl hM hP hS (p_first H ht ((xs (i + 1 + 0)).toInt)) hnx)
    · exact lv_tableIn hx hb lw_sw (off := 530) (tgt := 562) (by rw [hk]; decide) (by rw [hk]; decide) (by rw [hk]; rfl) (by decide) (lw_case E lwk_14 (by omega) hl hM hP hS (p_lasts H ht ((xs (i + 1 + 0)).toInt)) hnx)
    · exact lv_tableIn hx hb lw_sw (off := 553) (tgt := 585) (by rw [hk]; decide) (by rw [hk]; decide) (by rw [hk]; rfl) (by decide) (lw_case E lwk_15 (by omega) hl hM hP hS (p_shutBest H ht ((xs (i + 1 + 0)).toInt) ((xs (i + 1 + 1)).toInt) ((xs (i + 1 + 2)).toInt)) hnx)
    · exact lv_tableIn hx hb lw_sw (off := 596) (tgt := 628) (by rw [hk]; decide) (by rw [hk]; decide) (by rw [hk]; rfl) (by decide) (lw_case E lwk_16 (by omega) hl hM hP hS (p_move H ht ((xs (i + 1 + 0)).toInt)) hnx)
    · exact lv_tableIn hx hb lw_sw (off := 619) (tgt := 651) (by rw [hk]; decide) (by rw [hk]; decide) (by rw [hk]; rfl) (by decide) (lw_case E lwk_17 (by omega) hl hM hP hS (p_folkFor H ht ((xs (i + 1 + 0)).toInt) ((xs (i + 1 + 1)).toInt)) hnx)
    · exact lv_tableIn hx hb lw_sw (off := 652) (tgt := 684) (by rw [hk]; decide) (by rw [hk]; decide) (by rw [hk]; rfl) (by decide) (lw_case E lwk_18 (by omega) hl hM hP hS (p_only H ht) hnx)
    · exact lv_tableIn hx hb lw_sw (off := 665) (tgt := 697) (by rw [hk]; decide) (by rw [hk]; decide) (by rw [hk]; rfl) (by decide) (lw_case E lwk_19 (by omega) hl hM hP hS (p_keepers H ht ((xs (i + 1 + 0)).toInt)) hnx)
    · exact lv_tableIn hx hb lw_sw (off := 688) (tgt := 720) (by rw [hk]; decide) (by rw [hk]; decide) (by rw [hk]; rfl) (by decide) (lw_case E lwk_20 (by omega) hl hM hP hS (p_fewest H ht) hnx)
    · exact lv_tableIn hx hb lw_sw (off := 701) (tgt := 733) (by rw [hk]; decide) (by rw [hk]; decide) (by rw [hk]; rfl) (by decide) (lw_case E lwk_21 (by omega) hl hM hP hS (p_dearest H ht) hnx)
    · exact lv_tableIn hx hb lw_sw (off := 714) (tgt := 746) (by rw [hk]; decide) (by rw [hk]; decide) (by rw [hk]; rfl) (by decide) (lw_case E lwk_22 (by omega) hl hM hP hS (p_fullest H ht ((xs (i + 1 + 0)).toInt)) hnx)
    · exact lv_tableIn hx hb lw_sw (off := 737) (tgt := 769) (by rw [hk]; decide) (by rw [hk]; decide) (by rw [hk]; rfl) (by decide) (lw_case E lwk_23 (by omega) hl hM hP hS (p_age H ht ((xs (i + 1 + 0)).toInt)) hnx)
    · exact lv_tableIn hx hb lw_sw (off := 760) (tgt := 792) (by rw [hk]; decide) (by rw [hk]; decide) (by rw [hk]; rfl) (by decide) (lw_case E lwk_24 (by omega) hl hM hP hS (p_leak H ht ((xs (i + 1 + 0)).toInt)) hnx)
    · exact lv_tableIn hx hb lw_sw (off := 783) (tgt := 815) (by rw [hk]; decide) (by rw [hk]; decide) (by rw [hk]; rfl) (by decide) (lw_case E lwk_25 (by omega) hl hM hP hS (p_fill H ht ((xs (i + 1 + 0)).toInt) ((xs (i + 1 + 1)).toInt) ((xs (i + 1 + 2)).toInt) ((xs (i + 1 + 3)).toInt)) hnx)
    · exact lv_tableIn hx hb lw_sw (off := 836) (tgt := 868) (by rw [hk]; decide) (by rw [hk]; decide) (by rw [hk]; rfl) (by decide) (lw_case E lwk_26 (by omega) hl hM hP hS (p_feast H ht) hnx)
    · exact lv_tableIn hx hb lw_sw (off := 849) (tgt := 881) (by rw [hk]; decide) (by rw [hk]; decide) (by rw [hk]; rfl) (by decide) (lw_case E lwk_27 (by omega) hl hM hP hS (p_two H ht ((xs (i + 1 + 0)).toInt) ((xs (i + 1 + 1)).toInt) ((xs (i + 1 + 2)).toInt)) hnx)
    · exact lv_tableIn hx hb lw_sw (off := 892) (tgt := 924) (by rw [hk]; decide) (by rw [hk]; decide) (by rw [hk]; rfl) (by decide) (lw_caseL E lwk_28 (by omega) hl hM hP hS (p_mice H ht ((xs (i + 1 + 0)).toInt) ((xs (i + 1 + 1)).toInt) ((xs (i + 1 + 2)).toInt) ((xs (i + 1 + 3)).toInt)) hnx)
    · exact lv_tableIn hx hb lw_sw (off := 946) (tgt := 978) (by rw [hk]; decide) (by rw [hk]; decide) (by rw [hk]; rfl) (by decide) (lw_caseL E lwk_29 (by omega) hl hM hP hS (p_mean H ht ((xs (i + 1 + 0)).toInt)) hnx)
    · exact lv_tableIn hx hb lw_sw (off := 970) (tgt := 1002) (by rw [hk]; decide) (by rw [hk]; decide) (by rw [hk]; rfl) (by decide) (lw_case E lwk_30 (by omega) hl hM hP hS (p_whatWas H ht ((xs (i + 1 + 0)).toInt) ((xs (i + 1 + 1)).toInt)) hnx)
    · exact lv_tableIn hx hb lw_sw (off := 1003) (tgt := 1035) (by rw [hk]; decide) (by rw [hk]; decide) (by rw [hk]; rfl) (by decide) (lw_case E lwk_31 (by omega) hl hM hP hS (p_row H ht ((xs (i + 1 + 0)).toInt)) hnx)
    · exact lv_tableIn hx hb lw_sw (off := 1026) (tgt := 1058) (by rw [hk]; decide) (by rw [hk]; decide) (by rw [hk]; rfl) (by decide) (lw_case E lwk_32 (by omega) hl hM hP hS (p_judge H ht) hnx)
    · exact lv_tableIn hx hb lw_sw (off := 1039) (tgt := 1071) (by rw [hk]; decide) (by rw [hk]; decide) (by rw [hk]; rfl) (by decide) (lw_case E lwk_33 (by omega) hl hM hP hS (p_clear H ht) hnx)
    · exact lv_tableIn hx hb lw_sw (off := 1052) (tgt := 1084) (by rw [hk]; decide) (by rw [hk]; decide) (by rw [hk]; rfl) (by decide) (lw_case E lwk_34 (by omega) hl hM hP hS (p_lots H ht ((xs (i + 1 + 0)).toInt) ((xs (i + 1 + 1)).toInt) ((xs (i + 1 + 2)).toInt)) hnx)
    · exact lv_tableIn hx hb lw_sw (off := 1095) (tgt := 1127) (by rw [hk]; decide) (by rw [hk]; decide) (by rw [hk]; rfl) (by decide) (lw_case E lwk_35 (by omega) hl hM hP hS (p_image H ht) hnx)
    · exact lv_tableIn hx hb lw_sw (off := 1108) (tgt := 1140) (by rw [hk]; decide) (by rw [hk]; decide) (by rw [hk]; rfl) (by decide) (lw_case E lwk_36 (by omega) hl hM hP hS (p_on H ht) hnx)
    · exact lv_tableIn hx hb lw_sw (off := 1121) (tgt := 1153) (by rw [hk]; decide) (by rw [hk]; decide) (by rw [hk]; rfl) (by decide) (lw_case E lwk_37 (by omega) hl hM hP hS (p_count H ht ((xs (i + 1 + 0)).toInt)) hnx)
    · omega
theorem lw_loop (E : lwE p s m meth c b L xs D cI cZ ad adV) : ∀ (n i : Nat) (t : Int), L + 1 ≤ i + n → (i : Int) = 5 * t → ∀ (M : jM) (S : jT) (H0 : Heap) (locs0 : List Loc) (ls : Array Slot), lwL b ad i ls → sim t M S → jMr M → va_P D vwCl (jws cI cZ ad M) H0 → va_S (jA ad s.heap.size) s.heap H0 locs0 → i ≤ L + 5 → lwW p l e s m below meth c b 18 ls [] H0 locs0 := by
  have E0 := E
  obtain ⟨⟨hx, hb, hr, hml, hown, hts, hX, hbl, hlocks, hgv⟩, hL, hK, hE, hinj, hge⟩ := E0
  have hbA := lw_bA hbl hge
  intro n
  induction n using Nat.strongRecOn with
  | _ n ih =>
  intro i t hn hit M S H0 locs0 ls hl H hM hP hS hiL
  refine lv_iload_n (k := 3) hx hb (lwc_de (tg := 0) (by decide +kernel)) rfl (lv_at hl 3 rfl) ?_
  refine lv_aload_n (k := 0) hx hb (lwc_de (tg := 0) (by decide +kernel)) rfl (lv_at hl 0 rfl) ?_
  refine va_slen hx hb hX hbl hbA hS (lwc_de (tg := 0) (by decide +kernel)) ?_
  refine lv_iconst (n := 5) (v := Int32.ofInt 5) hx hb (lwc_de (tg := 0) (by decide +kernel)) rfl ?_
  refine lv_isub hx hb (lwc_de (tg := 0) (by decide +kernel)) ?_
  have e1 : Int32.ofNat L - Int32.ofInt 5 = Int32.ofInt ((L : Int) - 5) := by rw [Int32.ofInt_sub]; rfl
  rw [e1]
  have j1 : jr ((L : Int) - 5) := ⟨by omega, by omega⟩
  have j2 : jr (i : Int) := ⟨by omega, by omega⟩
  refine lv_icmp_gt (tgt := 1182) (off := 1159) hx hb (lwc_de (tg := 1182) (by decide +kernel)) (by decide) (fun z => ?_) (fun z => ?_)
  · refine lv_iconst (n := 1) (v := 1) hx hb (lwc_de (tg := 0) (by decide +kernel)) rfl ?_
    refine va_forget (fun q hq => ?_) ?_
    · rcases hS.2.2 q hq with ⟨k, h1, h2⟩ | h
      · rw [h2]; exact hge k h1
      · exact h
    · exact lw_ret hx hb hr hlocks (lwc_de (tg := 0) (by decide +kernel))
  · have hlt : i + 5 ≤ L := by
      have := mt (jr_lt j1 j2).mpr z
      omega
    refine lv_aload_n (k := 0) hx hb (lwc_de (tg := 0) (by decide +kernel)) rfl (lv_at hl 0 rfl) ?_
    refine lv_iload_n (k := 3) hx hb (lwc_de (tg := 0) (by decide +kernel)) rfl (lv_at hl 3 rfl) ?_
    refine va_sld hx hb hX hbl hbA hS (jr_in j2 (by omega) (by omega)) (lwc_de (tg := 0) (by decide +kernel)) ?_
    refine lv_bipush (n := 63) (v := 63) hx hb (lwc_de (tg := 0) (by decide +kernel)) (by decide) ?_
    refine lv_iand hx hb (lwc_de (tg := 0) (by decide +kernel)) ?_
    have htt := H.2.2
    refine lw_switch E hlt (by omega) hl H hM hP hS (fun H1 locs1 M' s' hs hM1 hP1 hS1 => ?_)
    refine lv_iinc (i := 3) (n := 5) (k := 3) (v := Int32.ofInt ((i + 5 : Nat) : Int)) (lv' := [(3, .int (Int32.ofInt ((i + 5 : Nat) : Int))), (0, .ref b), (1, .ref (ad 24)), (2, .ref (ad 28))]) hx hb (lwc_de (tg := 0) (by decide +kernel)) hl rfl (by rw [← Int32.ofInt_add]; rfl) (by decide) rfl (fun ls' hl' => ?_)
    refine lv_goto (tgt := 18) (off := -1161) hx hb (lwc_de (tg := 18) (by decide +kernel)) (by decide) ?_
    exact ih (n - 5) (by omega) (i + 5) (t + 1) (by omega) (by omega) M' s' H1 locs1 ls' (lv_sub hl' [1, 2, 3, 0] rfl) hs hM1 hP1 hS1 (by omega)
end LawRows
