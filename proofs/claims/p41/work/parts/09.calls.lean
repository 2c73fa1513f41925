-- Calls: a method's contract, and its use
def jslL : List Nat := [6, 2, 3, 0, 6]
def jstL : List (List Int32) := [[107, 48, 48, 48, 48, 59], [48, 59], [48, 48, 59], [], [106, 99, 112, 98, 104, 100]]
def jtx (k : Nat) : String := match k with
  | 0 => "k0000;"
  | 1 => "0;"
  | 2 => "00;"
  | 4 => "jcpbhd"
  | _ => ""
/-- the script: an array of ints that was there before -/
def jXs (ad : Nat → Nat) (A : Nat → Prop) (U : State) (H : Heap) : Prop := ∃ (L : Nat) (xs : Nat → Int32), L ≤ 260 ∧ va_X (ad 200) L xs U H ∧ ad 200 < H.size ∧ ¬ A (ad 200)
theorem jXs_kept {ad : Nat → Nat} {A : Nat → Prop} {U : State} {H H1 : Heap} (h : jXs ad A U H) (hq : ∀ a : Nat, a < H.size → ¬ A a → H1[a]? = H[a]?) : jXs ad A U H1 := by
  obtain ⟨L, xs, h0, h1, h2, h3⟩ := h
  have e := hq _ h2 h3
  refine ⟨L, xs, h0, h1.kept e, ?_, h3⟩
  rcases Nat.lt_or_ge (ad 200) H1.size with c | c
  · exact c
  · rw [Array.getElem?_eq_none c, Array.getElem?_eq_getElem h2] at e
    cases e
theorem jXs_moved {ad : Nat → Nat} {A : Nat → Prop} {u U : State} {H : Heap} (hvm : u.vm.Alike U.vm) (h : jXs ad A u H) : jXs ad A U H := by
  obtain ⟨L, xs, h0, h1, h2, h3⟩ := h
  exact ⟨L, xs, h0, va_X.moved hvm h1, h2, h3⟩
theorem jXs_narrow {ad : Nat → Nat} {A B : Nat → Prop} {U : State} {H : Heap} (h : jXs ad A U H) (hAB : ∀ q, B q → A q) : jXs ad B U H := by
  obtain ⟨L, xs, h0, h1, h2, h3⟩ := h
  exact ⟨L, xs, h0, h1, h2, fun z => h3 (hAB _ z)⟩
/-- what stands beside the cells: the link of a nest mate, the text constants, two statics of the library -/
def jE (ad adV : Nat → Nat) (A : Nat → Prop) (U : State) (H : Heap) : Prop :=
  va_Nw (.methodLinkNest RX0 55 yX1_hasBit RX1) U ∧ (∀ k, k < 5 → vk_R (jcn (jsw k)) (jsx k) (jtx k) (ad (100 + k)) U) ∧ vk_S 5 jslL jstL (fun k => ad (100 + k)) adV A U H ∧ va_Z "java/lang/String" "COMPACT_STRINGS" "Z" (.int 1) A U H ∧ va_Zq "jdk/internal/util/Preconditions" "SIOOBE_FORMATTER" "Ljava/util/function/BiFunction;" A U H ∧ jXs ad A U H
theorem jE_warm {ad adV : Nat → Nat} {A : Nat → Prop} {s U : State} {H : Heap} (hW : s.WarmedH U.vm) (h : jE ad adV A s H) : jE ad adV A U H :=
  ⟨va_Nw.warmM hW h.1, fun k hk => vk_R.warm hW (h.2.1 k hk), vk_S.moved hW.alike h.2.2.1, va_Z.moved hW.alike h.2.2.2.1, va_Zq.moved hW.alike h.2.2.2.2.1, jXs_moved hW.alike h.2.2.2.2.2⟩
theorem jE_same {ad adV : Nat → Nat} {A : Nat → Prop} {u U : State} {H : Heap} (hv : u.vm = U.vm) (h : jE ad adV A u H) : jE ad adV A U H := by
  have ha : u.vm.Alike U.vm := by rw [hv]; exact Vm.Alike.refl U.vm
  exact ⟨va_Nw.same rfl hv h.1, fun k hk => vk_R.same hv.symm (h.2.1 k hk), vk_S.moved ha h.2.2.1, va_Z.moved ha h.2.2.2.1, va_Zq.moved ha h.2.2.2.2.1, jXs_moved ha h.2.2.2.2.2⟩
theorem jE_kept {ad adV : Nat → Nat} {A : Nat → Prop} {U : State} {H H1 : Heap} (h : jE ad adV A U H) (hq : ∀ a : Nat, a < H.size → ¬ A a → H1[a]? = H[a]?) : jE ad adV A U H1 :=
  ⟨h.1, h.2.1, h.2.2.1.kept hq, h.2.2.2.1.kept hq, h.2.2.2.2.1.kept hq, jXs_kept h.2.2.2.2.2 hq⟩
theorem jE_narrow {ad adV : Nat → Nat} {A B : Nat → Prop} {U : State} {H : Heap} (h : jE ad adV A U H) (hAB : ∀ q, B q → A q) : jE ad adV B U H :=
  ⟨h.1, h.2.1, h.2.2.1.narrow hAB, h.2.2.2.1.narrow hAB, h.2.2.2.2.1.narrow hAB, jXs_narrow h.2.2.2.2.2 hAB⟩
def jroom (k : Nat) : Room := { frames := jrf k, cells := 0, slots := 0, locals := jrm k }
def jwds (k : Nat) : List Cond := Cond.code (jy k) (jb k) (jml k) (jty k) :: wsL_law
def jPc (D : va_G) (cI cZ : ClassId) (ad adV : Nat → Nat) (av : List Value) (M : jM) (sz : Nat) : Array Value → State → Prop := va_Pc av (fun U => U.heap.size = sz ∧ va_P D vwCl (jws cI cZ ad M) U.heap ∧ va_K D vwCl [(cI, .int), (cZ, .boolean)] U ∧ jE ad adV (jA ad sz) U U.heap)
def jQ (D : va_G) (cI cZ : ClassId) (ad : Nat → Nat) (Q : jRt) : Array Value → State → Outcome → State → Prop := fun _ st oc t =>
  (∃ (r : Option jV) (M' : jM), oc = .returned (r.map (jva ad)) ∧ Q r M' ∧ jMr M' ∧ (∀ v, r = some v → jvk v) ∧ va_P D vwCl (jws cI cZ ad M') t.heap) ∧ va_F (jA ad st.heap.size) st t
def jMet (l : Launch) (D : va_G) (cI cZ : ClassId) (ad adV : Nat → Nat) (k : Nat) (as : List jV) (M : jM) (Q : jRt) : Prop :=
  ∀ sz : Nat, Met l (jy k) (jwds k) (jroom k) (jPc D cI cZ ad adV (as.map (jva ad)) M sz) (jQ D cI cZ ad Q) 0 0 (jA ad sz)
theorem jA_mono {ad : Nat → Nat} {a b : Nat} (h : a ≤ b) : ∀ q, jA ad b q → jA ad a q := fun _ z => z.elim Or.inl (fun y => Or.inr (Nat.le_trans h y))
theorem jblind {D : va_G} {cI cZ : ClassId} {ad adV : Nat → Nat} {av : List Value} {M : jM} {sz : Nat} : FrameBlind (jPc D cI cZ ad adV av M sz) := fun a U g mk q => by
  obtain ⟨q0, q1, qP, qK, qE⟩ := q
  exact ⟨q0, q1, qP, va_K.moved (u := U) (U := U.calling g mk a) (Vm.Alike.refl U.vm) qK, jE_same (u := U) (U := U.calling g mk a) rfl qE⟩
theorem jcats_sum {ad : Nat → Nat} (S : List jV) : ((S.map (jva ad)).map fun v => v.category).sum = jcats S := by
  induction S with
  | nil => rfl
  | cons v S ih =>
    simp only [List.map_cons, List.sum_cons, jcats, jcat_va]
    rw [← ih]
theorem jm_cls {o : Nat} (h : o < 3) : jcn o ≠ "java/lang/invoke/MethodHandle" ∧ jcn o ≠ "java/lang/invoke/VarHandle" := by
  rcases o with _ | _ | _ | n
  · exact ⟨by decide, by decide⟩
  · exact ⟨by decide, by decide⟩
  · exact ⟨by decide, by decide⟩
  · omega
theorem jm_facts {k : Nat} (h : k < jN) : (jstt k = true → Cond.static (jy k) ∈ wsL_law) ∧ (jstt k = false → Cond.instanceMethod (jy k) ∈ wsL_law ∧ Cond.selects (jcn (jo k)) (jy k) (jy k) ∈ wsL_law ∧ 0 < jna k ∧ jo k < 2) ∧ (jy k).cls = jcn (jo k) ∧ (parseMethodDescriptor (jy k).desc).map (fun d => d.parameters.length) = some (if jstt k then jna k else jna k - 1) ∧ jo k < 3 ∧ plainName (jy k).cls = true ∧ (match jrk k with
  | 0 => decide (jty k = none)
  | 1 => decide (jty k = some .int)
  | 2 => decide (jty k = some .long)
  | 3 => decide (jty k = some (.object "java/lang/String"))
  | _ => decide (jrk k = 4 ∧ jty k = some .boolean)) = true := by
  have h0 := jmok_k h
  unfold jmok at h0
  obtain ⟨h0, a8⟩ := jand_t h0
  obtain ⟨h0, a7⟩ := jand_t h0
  obtain ⟨h0, a6⟩ := jand_t h0
  obtain ⟨h0, a5⟩ := jand_t h0
  obtain ⟨h0, a4⟩ := jand_t h0
  obtain ⟨h0, a3⟩ := jand_t h0
  obtain ⟨a1, a2⟩ := jand_t h0
  obtain ⟨a6, a6b⟩ := jand_t a6
  have b1 := List.mem_of_getElem? (of_decide_eq_true a1)
  refine ⟨fun e => ?_, fun e => ?_, of_decide_eq_true a3, of_decide_eq_true a4, Nat.blt_eq.mp a6, a7, a8⟩
  · rw [e] at b1; exact b1
  · rw [e] at b1 a2 a5 a6b
    exact ⟨b1, List.mem_of_getElem? (of_decide_eq_true a2), Nat.blt_eq.mp a5, Nat.blt_eq.mp a6b⟩
def jqk (rk : Nat) (F : List jV → jM → Prop) (rest : List jV) : jRt := match rk with
  | 0 => jqv fun M' => F rest M'
  | 1 => jqi fun x M' => F (.inl x :: rest) M'
  | 2 => jql fun x M' => F (.inr (.inl x) :: rest) M'
  | _ => jqr fun a b d M' => F (.inr (.inr (a, b, d)) :: rest) M'
section JCalls
variable {p : Program} {l : Launch} {e : Env} {R : Room} {s : State} {m : MethodId} {args : Array Value} {below : List Frame} {meth : Method} {c : Code} {Z : State → Prop} {D : va_G} {cI cZ : ClassId} {ad adV : Nat → Nat} {nL nc ns : Nat} {cc : ByteArray} {pc : Nat} {L : jLo} {S : List jV} {M : jM}
theorem jpre {H : Heap} {locs : List Loc} (hP : va_P D vwCl (jws cI cZ ad M) H) (hK : va_K D vwCl [(cI, .int), (cZ, .boolean)] s) (hE : jE ad adV (jA ad s.heap.size) s s.heap) (hS : va_S (jA ad s.heap.size) s.heap H locs) (av : List Value) : ∀ U : State, U.heap = H → s.WarmedH U.vm → jPc D cI cZ ad adV av M H.size av.toArray U := by
  intro U hU hW
  refine ⟨rfl, by rw [hU], by rw [hU]; exact hP, va_K.moved hW.alike hK, ?_⟩
  rw [hU]
  exact jE_warm hW (jE_narrow (jE_kept hE hS.2.1) (jA_mono hS.1))
theorem jback {Q : jRt} {H : Heap} {locs : List Loc} {ls : Array Slot} {rest st0 : List Value} {a : Array Value} (hr : va_Run p l e R s m args below meth c H locs nc ns 0 0 (F0 m pc ls st0) rest (jQ D cI cZ ad Q a) (jA ad H.size)) (hS : va_S (jA ad s.heap.size) s.heap H locs)
    (kk : ∀ (r : Option jV) (M' : jM) (H1 : Heap) (locs1 : List Loc), Q r M' → jMr M' → (∀ v, r = some v → jvk v) → va_P D vwCl (jws cI cZ ad M') H1 → va_S (jA ad s.heap.size) s.heap H1 locs1 → W p l e R s m args below meth c H1 locs1 nc ns Z (F0 m (pc + 3) ls ((r.map (jva ad)).toList ++ rest))) : W p l e R s m args below meth c H locs nc ns Z (F0 m pc ls st0) := by
  intro T hT X
  obtain ⟨v, st₀, t, T', L, h0, X', hL, e1, e2, ⟨⟨r, M', hv, hq, hm, hrv, hp⟩, hz, hk⟩, st⟩ := hr T hT X
  cases hv
  rw [h0] at hz hk
  obtain ⟨t2, a1, b1⟩ := kk r M' T'.heap (locs ++ L) hq hm hrv (by rw [e1]; exact hp)
    ⟨Nat.le_trans hS.1 (by rw [e1]; exact hz), fun q h1 h2 => by rw [e1, hk q (Nat.lt_of_lt_of_le h1 hS.1) (fun z => h2 (jA_mono hS.1 q z))]; exact hS.2.1 q h1 h2, fun q hq => by
      rcases List.mem_append.mp hq with h | h
      · exact hS.2.2 q h
      · exact jA_mono hS.1 _ (hL q h)⟩ T' rfl X'
  exact ⟨t2, st t2 a1, b1⟩
theorem jwds_good {k : Nat} (h : k < jN) : GoodIn wsL_law (jwds k) := jgoodIn fun w hw => by
  rcases List.mem_cons.mp hw with rfl | hw
  · exact jcw h
  · exact hw
theorem jcallB {mid idx : Nat} {own : String} (hk : mid < jN) (hts : ∀ w ∈ wsL_law, w.before args s = true) (hf : jrf mid + 1 ≤ R.frames) (hlo : 19 + jml mid + jrm mid ≤ R.locals) (hl : Cond.methodLink own idx (jy mid) ∈ wsL_law) : CallB R s args own idx (jy mid) (jb mid) (jml mid) (jty mid) (jwds mid) (jroom mid) 0 0 (if jstt mid then jna mid else jna mid - 1) := by
  obtain ⟨-, -, f3, f4, f5, -, -⟩ := jm_facts hk
  refine callB_of (ws' := wsL_law) _ hts (jwds_good hk) rfl rfl rfl ?_ (hts _ hl) ⟨by rw [f3]; exact (jm_cls f5).1, by rw [f3]; exact (jm_cls f5).2, f4⟩ ⟨hf, by show 8 + (jml mid + 11) + jrm mid ≤ R.locals; omega⟩
  rw [f3]
  exact hts _ (jini f5)
theorem jstk {na : Nat} {S : List jV} : S.map (jva ad) = ((S.take na).reverse.map (jva ad)).reverse ++ (S.drop na).map (jva ad) := by
  rw [List.map_reverse, List.reverse_reverse, ← List.map_append, List.take_append_drop]
/-- what comes back, whatever its kind -/
theorem jfin {rk na : Nat} {H1 : Heap} {locs1 : List Loc} {ls : Array Slot} {r : Option jV} {M' : jM} (hLo : ∀ i v, L.getD i none = some v → jvk v) (hSo : ∀ v, v ∈ S → jvk v) (hh : jhas ad ls nL L)
    (hq : jqk rk (fun S' M' => (jG p l e R s m args below meth c Z D cI cZ ad nL nc ns) (pc + 3) L S' M') (S.drop na) r M')
    (hm : jMr M') (hrv : ∀ v, r = some v → jvk v) (hp : va_P D vwCl (jws cI cZ ad M') H1) (hS : va_S (jA ad s.heap.size) s.heap H1 locs1) : W p l e R s m args below meth c H1 locs1 nc ns Z (F0 m (pc + 3) ls ((r.map (jva ad)).toList ++ (S.drop na).map (jva ad))) := by
  have hd : ∀ v, v ∈ S.drop na → jvk v := fun v hv => hSo v (List.mem_of_mem_drop hv)
  rcases rk with _ | _ | _ | n
  · obtain ⟨rfl, h⟩ := hq
    exact h H1 locs1 ls ⟨hm, hLo, hd, hp, hS, hh⟩
  · obtain ⟨x, rfl, h⟩ := hq
    exact h H1 locs1 ls ⟨hm, hLo, jS_cons (hrv _ rfl) hd, hp, hS, hh⟩
  · obtain ⟨x, rfl, h⟩ := hq
    exact h H1 locs1 ls ⟨hm, hLo, jS_cons (hrv _ rfl) hd, hp, hS, hh⟩
  · obtain ⟨a, b, d, rfl, h⟩ := hq
    exact h H1 locs1 ls ⟨hm, hLo, jS_cons (hrv _ rfl) hd, hp, hS, hh⟩
theorem jo_call_in {mid na ci rk ml nx : Nat} {K : jK} {C : jC} (h : jo_call mid na ci rk ml nx L S M K C) : na ≤ S.length ∧ jcats (S.drop na) ≤ 8 ∧ jcats (S.take na) ≤ ml ∧ (Nat.beq ci 3 || (match (S.take na).reverse with
    | .inr (.inr (k, _, c)) :: _ => (match jshp k c with
      | .inr (.inr cj) => Nat.beq cj ci
      | _ => false)
    | _ => false)) = true ∧ C mid (S.take na).reverse M (jqk rk (fun S' M' => K nx L S' M') (S.drop na)) := by
  unfold jo_call at h
  obtain ⟨h1, h⟩ := jcond h
  obtain ⟨h1, h5⟩ := jand_t h1
  obtain ⟨h1, h4⟩ := jand_t h1
  obtain ⟨h2, h3⟩ := jand_t h1
  refine ⟨Nat.le_of_ble_eq_true h2, Nat.le_of_ble_eq_true h3, Nat.le_of_ble_eq_true h4, h5, ?_⟩
  rcases rk with _ | _ | _ | n <;> exact h
theorem jcats_rev : ∀ S : List jV, jcats S.reverse = jcats S := by
  have app : ∀ a b : List jV, jcats (a ++ b) = jcats a + jcats b := by
    intro a b
    induction a with
    | nil => simp [jcats]
    | cons v a ih => simp only [List.cons_append, jcats, ih]; omega
  intro S
  induction S with
  | nil => rfl
  | cons v S ih => rw [List.reverse_cons, app, ih]; simp only [jcats]; omega
theorem js_callS (hx : p.tables.exec = Jvm.exec) (hb : c.code = cc) (hml : c.maxLocals = nL) {own : String} (hown : s.vm.findClass own = some m.cls) (hts : ∀ w ∈ wsL_law, w.before args s = true) (hK : va_K D vwCl [(cI, .int), (cZ, .boolean)] s) (hE : jE ad adV (jA ad s.heap.size) s s.heap)
    {mid idx rk ci : Nat} {C : jC} (hk : mid < jN) (hst : jstt mid = true) (hro : nc ≤ R.cells ∧ ns ≤ R.slots) (hf : jrf mid + 1 ≤ R.frames) (hlo : 19 + jml mid + jrm mid ≤ R.locals) (hl : Cond.methodLink own idx (jy mid) ∈ wsL_law)
    (hd : ClassFile.decode cc pc = .ok (.invokestatic idx, 3)) (hC : ∀ as Q', (∀ v, v ∈ as → jvk v) → jMr M → jcats as ≤ jml mid → C mid as M Q' → jMet l D cI cZ ad adV mid as M Q') (h : jo_call mid (jna mid) ci rk (jml mid) (pc + 3) L S M (jG p l e R s m args below meth c Z D cI cZ ad nL nc ns) C) : (jG p l e R s m args below meth c Z D cI cZ ad nL nc ns) pc L S M := by
  intro H locs ls ⟨hM, hLo, hSo, hP, hS, hh⟩
  obtain ⟨h1, h2, h3, -, h⟩ := jo_call_in h
  have hv : ∀ v, v ∈ (S.take (jna mid)).reverse → jvk v := fun v hv => hSo v (List.mem_of_mem_take (List.mem_reverse.mp hv))
  have hmet := hC _ _ hv hM (by rw [jcats_rev]; exact h3) h
  have cb := jcallB (R := R) (s := s) (args := args) hk hts hf hlo hl
  rw [hst] at cb
  refine jback (rest := (S.drop (jna mid)).map (jva ad)) (va_runS (As := (S.take (jna mid)).reverse.map (jva ad)) ⟨hx, hb, hml, hown, hts⟩ (hmet H.size) ⟨cb, hts _ ((jm_facts hk).1 hst)⟩ ⟨jblind, jpre hP hK hE hS _⟩ rfl (by simp; omega) hh.1 jstk (lv_room (by rw [jcats_sum]; exact h2)) hd hro) hS (fun r M' H1 locs1 hq hm hrv hp hS1 => jfin hLo hSo hh hq hm hrv hp hS1)
theorem js_callN (hx : p.tables.exec = Jvm.exec) (hb : c.code = cc) (hml : c.maxLocals = nL) {own host : String} (hown : s.vm.findClass own = some m.cls) (hts : ∀ w ∈ wsL_law, w.before args s = true) (hK : va_K D vwCl [(cI, .int), (cZ, .boolean)] s) (hE : jE ad adV (jA ad s.heap.size) s s.heap)
    {mid idx rk ci : Nat} {C : jC} (hk : mid < jN) (hst : jstt mid = true) (hro : nc ≤ R.cells ∧ ns ≤ R.slots) (hf : jrf mid + 1 ≤ R.frames) (hlo : 19 + jml mid + jrm mid ≤ R.locals) (hl : va_Nw (.methodLinkNest own idx (jy mid) host) s)
    (hd : ClassFile.decode cc pc = .ok (.invokestatic idx, 3)) (hC : ∀ as Q', (∀ v, v ∈ as → jvk v) → jMr M → jcats as ≤ jml mid → C mid as M Q' → jMet l D cI cZ ad adV mid as M Q') (h : jo_call mid (jna mid) ci rk (jml mid) (pc + 3) L S M (jG p l e R s m args below meth c Z D cI cZ ad nL nc ns) C) : (jG p l e R s m args below meth c Z D cI cZ ad nL nc ns) pc L S M := by
  intro H locs ls ⟨hM, hLo, hSo, hP, hS, hh⟩
  obtain ⟨h1, h2, h3, -, h⟩ := jo_call_in h
  have hv : ∀ v, v ∈ (S.take (jna mid)).reverse → jvk v := fun v hv => hSo v (List.mem_of_mem_take (List.mem_reverse.mp hv))
  have hmet := hC _ _ hv hM (by rw [jcats_rev]; exact h3) h
  obtain ⟨f1, -, f3, f4, f5, -, -⟩ := jm_facts hk
  rw [hst] at f4
  have cb : va_CN R s args own idx (jy mid) host (jb mid) (jml mid) (jty mid) (jwds mid) (jroom mid) 0 0 (jna mid) :=
    va_cnB (ws' := wsL_law) _ hts (jwds_good hk) rfl rfl rfl hl (by rw [f3]; exact hts _ (jini f5)) ⟨by rw [f3]; exact (jm_cls f5).1, by rw [f3]; exact (jm_cls f5).2, f4⟩ ⟨hf, by show 8 + (jml mid + 11) + jrm mid ≤ R.locals; omega⟩
  refine jback (rest := (S.drop (jna mid)).map (jva ad)) (va_runSN (As := (S.take (jna mid)).reverse.map (jva ad)) ⟨hx, hb, hml, hown, hts⟩ (hmet H.size) ⟨cb, hts _ (f1 hst), trivial⟩ ⟨jblind, jpre hP hK hE hS _⟩ rfl (by simp; omega) hh.1 jstk (lv_room (by rw [jcats_sum]; exact h2)) hd hro) hS (fun r M' H1 locs1 hq hm hrv hp hS1 => jfin hLo hSo hh hq hm hrv hp hS1)
theorem js_callV (hx : p.tables.exec = Jvm.exec) (hb : c.code = cc) (hml : c.maxLocals = nL) {own : String} (hown : s.vm.findClass own = some m.cls) (hts : ∀ w ∈ wsL_law, w.before args s = true) (hK : va_K D vwCl [(cI, .int), (cZ, .boolean)] s) (hE : jE ad adV (jA ad s.heap.size) s s.heap)
    {mid idx rk : Nat} {C : jC} (hk : mid < jN) (hst : jstt mid = false) (hro : nc ≤ R.cells ∧ ns ≤ R.slots) (hf : jrf mid + 1 ≤ R.frames) (hlo : 19 + jml mid + jrm mid ≤ R.locals) (hl : Cond.methodLink own idx (jy mid) ∈ wsL_law)
    (hd : ClassFile.decode cc pc = .ok (.invokevirtual idx, 3)) (hC : ∀ as Q', (∀ v, v ∈ as → jvk v) → jMr M → jcats as ≤ jml mid → C mid as M Q' → jMet l D cI cZ ad adV mid as M Q') (h : jo_call mid (jna mid) (jo mid) rk (jml mid) (pc + 3) L S M (jG p l e R s m args below meth c Z D cI cZ ad nL nc ns) C) : (jG p l e R s m args below meth c Z D cI cZ ad nL nc ns) pc L S M := by
  intro H locs ls ⟨hM, hLo, hSo, hP, hS, hh⟩
  obtain ⟨h1, h2, h3, h4, h⟩ := jo_call_in h
  have hv : ∀ v, v ∈ (S.take (jna mid)).reverse → jvk v := fun v hv => hSo v (List.mem_of_mem_take (List.mem_reverse.mp hv))
  have hmet := hC _ _ hv hM (by rw [jcats_rev]; exact h3) h
  obtain ⟨-, f2, f3, f4, f5, -, -⟩ := jm_facts hk
  obtain ⟨w1, w2, w3⟩ := f2 hst
  have cb := jcallB (R := R) (s := s) (args := args) hk hts hf hlo hl
  rw [hst] at cb
  have hne : Nat.beq (jo mid) 3 = false := by
    cases hbq : Nat.beq (jo mid) 3 with
    | false => rfl
    | true => have := Nat.eq_of_beq_eq_true hbq; omega
  rw [hne, Bool.false_or] at h4
  have hlen : (S.take (jna mid)).reverse.length = jna mid := by simp; omega
  have hst0 := jstk (ad := ad) (na := jna mid) (S := S)
  rcases hrv : (S.take (jna mid)).reverse with _ | ⟨x | x | ⟨k, i, pt⟩, as'⟩ <;> rw [hrv] at h4 <;> try exact absurd h4 Bool.false_ne_true
  rw [hrv] at hmet hlen hst0 hv
  have h4' : (match jshp k pt with
      | .inr (.inr cj) => Nat.beq cj (jo mid)
      | _ => false) = true := h4
  rcases hsh : jshp k pt with n | n | cj <;> rw [hsh] at h4' <;> try exact absurd h4' Bool.false_ne_true
  have e1 : cj = jo mid := Nat.eq_of_beq_eq_true h4'
  subst e1
  have hok : jok k i pt := jst_ok (q := (k, i, pt)) (hv _ List.mem_cons_self) hsh
  have hw := jws_at cI cZ ad M hok
  rw [jcell_ob hsh] at hw
  refine jback (rest := (S.drop (jna mid)).map (jva ad)) (va_runV (C := jcn (jo mid)) (b := ad (jix k i pt)) (As := as'.map (jva ad)) ⟨hx, hb, hml, hown, hts⟩ (hmet H.size) ⟨cb, hts _ w1, hts _ w2⟩ ⟨jblind, va_recv hK hP (jcl_at w3.2) hw, jpre hP hK hE hS _⟩ rfl (by
    have h9 : as'.length + 1 = jna mid := hlen
    simp only [List.length_map, Bool.false_eq_true, if_false]
    omega) hh.1 (by
    rw [hst0, List.map_cons, List.reverse_cons, List.append_assoc]; rfl) (lv_room (by rw [jcats_sum]; exact h2)) hd hro) hS (fun r M' H1 locs1 hq hm hrv hp hS1 => jfin hLo hSo hh hq hm hrv hp hS1)
end JCalls
