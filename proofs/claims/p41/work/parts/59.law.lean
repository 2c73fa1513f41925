-- The law: its head (the skeleton's), its run over the small machine
def R_law : String := "LarderAgesLaw"
def lw_P (b : Addr) (xs : List Int32) (args : Array Value) (s : State) : Prop := args = #[.ref b] ∧ s.IntsAt b xs ∧ xs.length ≤ 260 ∧ (Jvm.Cond.and given_1 narrow_1).before args s = true
def lw_Q (_ : Array Value) (s : State) (o : Outcome) (t : State) : Prop := o = .returned (some (.int 1)) ∧ Framed s o t [] 29 409
def lw_Z (below : List Frame) (a : Array Value) (s : State) : State → Prop := fun t => ∃ o, t.status = .running ∧ Ended t below o ∧ lw_Q a s o t
/-- the law's own end, with 1 on the stack, nothing written that was there before, its room as the claim has it -/
theorem lw_ret {p : Program} {l : Launch} {e : Env} {s : State} {m : MethodId} {below : List Frame} {meth : Method} {c : Code} {b : Nat} (hx : p.tables.exec = Jvm.exec) (hb : c.code = code) (hr : meth.sig.returnType = ret) (hlocks : meth.locks = false) {pc : Nat} {H : Heap} {ls : Array Slot} (hdg : decode code pc = .ok (.ireturn, 1)) : W p l e room_1 s m #[Value.ref b] below meth c H [] 29 409 (lw_Z below #[Value.ref b] s) (F0 m pc ls [.int 1]) := by
  intro T hT X
  obtain ⟨fs, hret, hrun, hended, hW, hframe⟩ := X.leave (v := some (.int 1)) (hlocks := hlocks) (fun h => by rw [hr] at h; cases h)
  have hmeth' : T.vm.method? m = some meth := X.method'
  refine ⟨T.setFrames fs, ?_, .returned (some (.int 1)), hrun, hended, rfl, ⟨_, rfl⟩, hW, hframe⟩
  jvm_step X.here [X.here.top, hx, hb, hdg, hmeth', hr, ret, narrow_b1]
  (try refine ⟨rfl, ?_⟩); (try refine ⟨rfl, ?_⟩)
  first | (intro acts; rw [hret _ acts rfl rfl rfl]) | rw [hret _ _ rfl rfl rfl]
  exact Steps.refl _
/-- what holds at the law's entry: the machine, the code, the tables' words (any of lw_tbl by 'hts w (by decide +kernel)'), the script of L ints xs at the cell b, what the Statement gives of the start (any of its parts by flat_of_before) -/
def lw_At (p : Program) (s : State) (m : MethodId) (meth : Method) (c : Code) (b L : Nat) (xs : Nat → Int32) : Prop :=
  p.tables.exec = Jvm.exec ∧ c.code = code ∧ meth.sig.returnType = ret ∧ c.maxLocals = 22 ∧ s.vm.findClass R_law = some m.cls ∧ (∀ w ∈ lw_tbl, w.before #[Value.ref b] s = true) ∧ va_X b L xs s s.heap ∧ b < s.heap.size ∧ meth.locks = false ∧ (Jvm.Cond.and given_1 narrow_1).before #[Value.ref b] s = true
section LawRun
variable {p : Program} {l : Launch} {e : Env} {s : State} {m : MethodId} {below : List Frame} {meth : Method} {c : Code} {b L : Nat} {xs : Nat → Int32} {D : va_G} {cI cZ : ClassId} {ad adV : Nat → Nat}
/-- what stands around the law's run -/
def lwE (p : Program) (s : State) (m : MethodId) (meth : Method) (c : Code) (b L : Nat) (xs : Nat → Int32) (D : va_G) (cI cZ : ClassId) (ad adV : Nat → Nat) : Prop :=
  lw_At p s m meth c b L xs ∧ va_K D vwCl [(cI, .int), (cZ, .boolean)] s ∧ jE ad adV (jA ad s.heap.size) s s.heap ∧ (∀ i j, i < 29 → j < 29 → ad i = ad j → i = j) ∧ (∀ k, k < 29 → s.heap.size ≤ ad k)
abbrev lwG (p : Program) (l : Launch) (e : Env) (s : State) (m : MethodId) (below : List Frame) (meth : Method) (c : Code) (b : Nat) (D : va_G) (cI cZ : ClassId) (ad : Nat → Nat) : jK := jG p l e room_1 s m #[Value.ref b] below meth c (lw_Z below #[Value.ref b] s) D cI cZ ad (jml 89) 29 409
theorem lw_iret (E : lwE p s m meth c b L xs D cI cZ ad adV) {pc : Nat} {H : Heap} {locs : List Loc} {ls : Array Slot} (hS : va_S (jA ad s.heap.size) s.heap H locs) (hd : ClassFile.decode code pc = .ok (.ireturn, 1)) : W p l e room_1 s m #[Value.ref b] below meth c H locs 29 409 (lw_Z below #[Value.ref b] s) (F0 m pc ls [.int 1]) := by
  obtain ⟨⟨hx, hb, hr, hml, hown, hts, hX, hbl, hlocks, hgv⟩, hK, hE, hinj, hge⟩ := E
  refine va_forget (fun q hq => ?_) ?_
  · rcases hS.2.2 q hq with ⟨k, h1, h2⟩ | h
    · rw [h2]; exact hge k h1
    · exact h
  · exact lw_ret hx hb hr hlocks hd
set_option maxHeartbeats 4000000 in
set_option maxRecDepth 20000 in
theorem lw_good (E : lwE p s m meth c b L xs D cI cZ ad adV) : jgood (fun k pc L S M Q => jAt k pc L S M Q ∧ (k = 89 → (∀ r M', Q r M' → r = some (jI 1)) → lwG p l e s m below meth c b D cI cZ ad pc L S M)) := by
  refine ⟨fun k pc L S M Q Q' h hq => ⟨jAt_mono h.1 hq, fun e z => h.2 e (fun r M' q => z r M' (hq r M' q))⟩, fun k pc L S M Q h => ?_⟩
  have hat : jAt k pc L S M Q := by
    refine jAt_intro ?_
    unfold jstep at h ⊢
    split at h
    · exact h
    · exact jsem_mono (fun _ _ _ _ q => q.1) (fun _ _ _ _ _ q hq => jAt_mono q.1 hq) h
  refine ⟨hat, fun e0 z => ?_⟩
  subst e0
  have E0 := E
  obtain ⟨⟨hx, hb, hr, hml, hown, hts0, hX, hbl, hlocks, hgv⟩, hK, hE, hinj, hge⟩ := E0
  have hts : ∀ w ∈ wsL_law, w.before #[Value.ref b] s = true := fun w h => hts0 w (wsL_law_in w h)
  have hb' : c.code = jb 89 := hb
  have hml' : c.maxLocals = jml 89 := hml
  have hown' : s.vm.findClass (jcn (jo 89)) = some m.cls := hown
  unfold jstep at h
  cases hc : jcode 89 pc with
  | none => rw [hc] at h; exact False.elim h
  | some en =>
    rw [hc] at h
    obtain ⟨ins, nx, tg, sw⟩ := en
    have h' := jsem_mono (K' := lwG p l e s m below meth c b D cI cZ ad) (C' := jCall) (fun _ _ _ _ q => q.2 rfl z) (fun _ _ _ _ _ q hq => jCall_mono q.1 hq) h
    refine jG_step hinj hc hx hb' hml' hown' hts hK hE ⟨by decide, by decide⟩ (Nat.le_of_ble_eq_true (by decide +kernel)) (Nat.le_of_ble_eq_true (by decide +kernel)) (fun k' as Q' ht hv hM hcc q => jmet hinj ht hv hM hcc q) (fun hret => ?_) h'
    obtain ⟨hq1, hc2⟩ := jand_t (jchk_of hc)
    obtain ⟨hq2, hc3⟩ := jand_t hq1
    obtain ⟨hc4, hc5⟩ := jand_t hq2
    have hd : ClassFile.decode code pc = .ok (ins, nx - pc) := of_decide_eq_true hc4
    have hnx : ∀ n, jlen1 ins = n → 0 < n → nx = pc + n := by
      intro n e1 e2
      rw [e1] at hc3
      rcases Bool.or_eq_true_iff.mp hc3 with z | z
      · have := Nat.eq_of_beq_eq_true z; omega
      · exact Nat.eq_of_beq_eq_true z
    clear h hc4 hc3 hc5 hq1 hq2 hc hc2 hat
    cases ins
    case ireturn =>
      obtain rfl := hnx 1 rfl (by decide); rw [jsub1] at hd
      intro H locs ls hI
      obtain ⟨hM, hLo, hSo, hP, hS, hh⟩ := hI
      have h9 : jo_ret 4 S M Q := h'
      rcases S with _ | ⟨x | x | x, _ | ⟨y, S⟩⟩ <;> try exact False.elim h9
      have e1 := z _ _ h9.2
      have e2 : x = 1 := by
        injection e1 with e1
        injection e1
      subst e2
      exact lw_iret E hS hd
    case lreturn => exact False.elim (show False from h')
    case areturn => exact False.elim (show False from h')
    case return_ => exact False.elim (show False from h')
    all_goals exact Bool.noConfusion hret
end LawRun
