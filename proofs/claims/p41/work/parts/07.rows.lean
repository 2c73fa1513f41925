-- Each operation of the machine, held against the kit's row of its instruction
def jlv (ad : Nat → Nat) (L : jLo) : List (Nat × Value) := (List.range L.length).filterMap (fun i => (L.getD i none).map (fun v => (i, jva ad v)))
def jhas (ad : Nat → Nat) (ls : Array Slot) (nL : Nat) (L : jLo) : Prop := ls.size = nL ∧ lv_wf ls ∧ L.length = nL ∧ ∀ i v, L.getD i none = some v → ls[i]? = some (.val (jva ad v))
def jInv (D : va_G) (cI cZ : ClassId) (ad : Nat → Nat) (s : State) (nL : Nat) (L : jLo) (S : List jV) (M : jM) (H : Heap) (locs : List Loc) (ls : Array Slot) : Prop :=
  jMr M ∧ (∀ i v, L.getD i none = some v → jvk v) ∧ (∀ v, v ∈ S → jvk v) ∧ va_P D vwCl (jws cI cZ ad M) H ∧ va_S (jA ad s.heap.size) s.heap H locs ∧ jhas ad ls nL L
def jG (p : Program) (l : Launch) (e : Env) (R : Room) (s : State) (m : MethodId) (args : Array Value) (below : List Frame) (meth : Method) (c : Code) (Z : State → Prop) (D : va_G) (cI cZ : ClassId) (ad : Nat → Nat) (nL nc ns : Nat) : jK :=
  fun pc L S M => ∀ (H : Heap) (locs : List Loc) (ls : Array Slot), jInv D cI cZ ad s nL L S M H locs ls → W p l e R s m args below meth c H locs nc ns Z (F0 m pc ls (S.map (jva ad)))
theorem jS_cons {v : jV} {S : List jV} (h : jvk v) (hs : ∀ w, w ∈ S → jvk w) : ∀ w, w ∈ v :: S → jvk w := by
  intro w hw
  rcases List.mem_cons.mp hw with rfl | hw
  · exact h
  · exact hs w hw
theorem jS_tl {v : jV} {S : List jV} (hs : ∀ w, w ∈ v :: S → jvk w) : ∀ w, w ∈ S → jvk w := fun w hw => hs w (List.mem_cons_of_mem _ hw)
theorem jS_hd {v : jV} {S : List jV} (hs : ∀ w, w ∈ v :: S → jvk w) : jvk v := hs v List.mem_cons_self
theorem jhas_lv {ad : Nat → Nat} {ls : Array Slot} {nL : Nat} {L : jLo} (h : jhas ad ls nL L) : lv_has ls nL (jlv ad L) := by
  refine ⟨h.1, h.2.1, fun q hq => ?_⟩
  obtain ⟨i, hi, he⟩ := List.mem_filterMap.mp hq
  cases hL : L.getD i none with
  | none => rw [hL] at he; cases he
  | some v =>
    rw [hL] at he
    cases he
    exact h.2.2.2 i v hL
theorem jlv_mem {ad : Nat → Nat} {L : jLo} {i : Nat} {v : jV} (h : L.getD i none = some v) : (i, jva ad v) ∈ jlv ad L := by
  refine List.mem_filterMap.mpr ⟨i, List.mem_range.mpr (jgetD_lt h), ?_⟩
  rw [h]; rfl
theorem jcat_va {ad : Nat → Nat} (v : jV) : (jva ad v).category = jcat v := by
  rcases v with x | x | ⟨k, i, c⟩ <;> rfl
theorem jst1 {ad : Nat → Nat} {ls ls' : Array Slot} {nL : Nat} {L : jLo} {i : Nat} {v : jV} (h : jhas ad ls nL L) (hi : i < nL)
    (h' : lv_has ls' nL ((i, jva ad v) :: (jlv ad L).filter (fun q => !(q.1 == i) && !(q.1 + 1 == i && q.2.category == 2)))) : jhas ad ls' nL ((jdrop L i).set i (some v)) := by
  refine ⟨h'.1, h'.2.1, by rw [List.length_set, jdrop_len]; exact h.2.2.1, fun j w hw => ?_⟩
  rw [jgetD_set (by rw [jdrop_len, h.2.2.1]; exact hi)] at hw
  by_cases e : i = j
  · subst e
    rw [if_pos rfl] at hw
    cases hw
    exact h'.2.2 _ List.mem_cons_self
  · rw [if_neg e, jdrop_get] at hw
    refine h'.2.2 (j, jva ad w) (List.mem_cons_of_mem _ (List.mem_filter.mpr ⟨jlv_mem hw.1, ?_⟩))
    simp only [Bool.and_eq_true, Bool.not_eq_true', beq_eq_false_iff_ne, ne_eq, Bool.and_eq_false_iff]
    refine ⟨fun z => e z.symm, ?_⟩
    rw [jcat_va]
    by_cases e2 : j + 1 = i
    · exact Or.inr fun z => hw.2 ⟨e2, z⟩
    · exact Or.inl e2
theorem jst2 {ad : Nat → Nat} {ls ls' : Array Slot} {nL : Nat} {L : jLo} {i : Nat} {v : jV} (h : jhas ad ls nL L) (hi : i + 1 < nL)
    (h' : lv_has ls' nL ((i, jva ad v) :: (jlv ad L).filter (fun q => !(q.1 == i) && (!(q.1 == i + 1) && !(q.1 + 1 == i && q.2.category == 2))))) : jhas ad ls' nL (((jdrop L i).set i (some v)).set (i + 1) none) := by
  refine ⟨h'.1, h'.2.1, by rw [List.length_set, List.length_set, jdrop_len]; exact h.2.2.1, fun j w hw => ?_⟩
  rw [jgetD_set (by rw [List.length_set, jdrop_len, h.2.2.1]; exact hi), jgetD_set (by rw [jdrop_len, h.2.2.1]; omega)] at hw
  by_cases e1 : i + 1 = j
  · rw [if_pos e1] at hw; cases hw
  rw [if_neg e1] at hw
  by_cases e : i = j
  · subst e
    rw [if_pos rfl] at hw
    cases hw
    exact h'.2.2 _ List.mem_cons_self
  · rw [if_neg e, jdrop_get] at hw
    refine h'.2.2 (j, jva ad w) (List.mem_cons_of_mem _ (List.mem_filter.mpr ⟨jlv_mem hw.1, ?_⟩))
    simp only [Bool.and_eq_true, Bool.not_eq_true', beq_eq_false_iff_ne, ne_eq, Bool.and_eq_false_iff]
    refine ⟨fun z => e z.symm, fun z => e1 z.symm, ?_⟩
    rw [jcat_va]
    by_cases e2 : j + 1 = i
    · exact Or.inr fun z => hw.2 ⟨e2, z⟩
    · exact Or.inl e2
theorem jLo_set {L : jLo} {i : Nat} {v : jV} (hi : i < L.length) (h : ∀ j w, L.getD j none = some w → jvk w) (hv : jvk v) : ∀ j w, ((jdrop L i).set i (some v)).getD j none = some w → jvk w := by
  intro j w hw
  rw [jgetD_set (by rw [jdrop_len]; exact hi)] at hw
  by_cases e : i = j
  · rw [if_pos e] at hw; cases hw; exact hv
  · rw [if_neg e, jdrop_get] at hw; exact h j w hw.1
theorem jLo_set2 {L : jLo} {i : Nat} {v : jV} (hi : i + 1 < L.length) (h : ∀ j w, L.getD j none = some w → jvk w) (hv : jvk v) : ∀ j w, (((jdrop L i).set i (some v)).set (i + 1) none).getD j none = some w → jvk w := by
  intro j w hw
  rw [jgetD_set (by rw [List.length_set, jdrop_len]; exact hi)] at hw
  by_cases e : i + 1 = j
  · rw [if_pos e] at hw; cases hw
  · rw [if_neg e] at hw; exact jLo_set (by omega) h hv j w hw
theorem jcond {b : Bool} {A : Prop} (h : cond b A False) : b = true ∧ A := by
  cases b
  · exact False.elim h
  · exact ⟨rfl, h⟩
theorem jand_t {a b : Bool} (h : (a && b) = true) : a = true ∧ b = true := by
  cases a <;> cases b <;> first | exact ⟨rfl, rfl⟩ | cases h
section JRows
variable {p : Program} {l : Launch} {e : Env} {R : Room} {s : State} {m : MethodId} {args : Array Value} {below : List Frame} {meth : Method} {c : Code} {Z : State → Prop} {D : va_G} {cI cZ : ClassId} {ad : Nat → Nat} {nL nc ns : Nat} {cc : ByteArray} {pc : Nat} {L : jLo} {S : List jV} {M : jM}
-- loads
theorem js_iload (hx : p.tables.exec = Jvm.exec) (hb : c.code = cc) {i : Nat} (hd : ClassFile.decode cc pc = .ok (.iload i, 2)) (h : jo_iload i (pc + 2) L S M (jG p l e R s m args below meth c Z D cI cZ ad nL nc ns)) : (jG p l e R s m args below meth c Z D cI cZ ad nL nc ns) pc L S M := by
  intro H locs ls ⟨hM, hLo, hSo, hP, hS, hh⟩
  unfold jo_iload at h
  rcases hL : L.getD i none with _ | x | x | x <;> rw [hL] at h <;> try exact False.elim h
  exact lv_iload hx hb hd (hh.2.2.2 i _ hL) (h H locs ls ⟨hM, hLo, jS_cons (hLo i _ hL) hSo, hP, hS, hh⟩)
theorem js_iload_n (hx : p.tables.exec = Jvm.exec) (hb : c.code = cc) {i : Fin 4} (hd : ClassFile.decode cc pc = .ok (.iload_n i, 1)) (h : jo_iload i.val (pc + 1) L S M (jG p l e R s m args below meth c Z D cI cZ ad nL nc ns)) : (jG p l e R s m args below meth c Z D cI cZ ad nL nc ns) pc L S M := by
  intro H locs ls ⟨hM, hLo, hSo, hP, hS, hh⟩
  unfold jo_iload at h
  rcases hL : L.getD i.val none with _ | x | x | x <;> rw [hL] at h <;> try exact False.elim h
  exact lv_iload_n hx hb hd rfl (hh.2.2.2 i.val _ hL) (h H locs ls ⟨hM, hLo, jS_cons (hLo i.val _ hL) hSo, hP, hS, hh⟩)
theorem js_lload (hx : p.tables.exec = Jvm.exec) (hb : c.code = cc) {i : Nat} (hd : ClassFile.decode cc pc = .ok (.lload i, 2)) (h : jo_lload i (pc + 2) L S M (jG p l e R s m args below meth c Z D cI cZ ad nL nc ns)) : (jG p l e R s m args below meth c Z D cI cZ ad nL nc ns) pc L S M := by
  intro H locs ls ⟨hM, hLo, hSo, hP, hS, hh⟩
  unfold jo_lload at h
  rcases hL : L.getD i none with _ | x | x | x <;> rw [hL] at h <;> try exact False.elim h
  exact lv_lload hx hb hd (hh.2.2.2 i _ hL) (h H locs ls ⟨hM, hLo, jS_cons (hLo i _ hL) hSo, hP, hS, hh⟩)
theorem js_lload_n (hx : p.tables.exec = Jvm.exec) (hb : c.code = cc) {i : Fin 4} (hd : ClassFile.decode cc pc = .ok (.lload_n i, 1)) (h : jo_lload i.val (pc + 1) L S M (jG p l e R s m args below meth c Z D cI cZ ad nL nc ns)) : (jG p l e R s m args below meth c Z D cI cZ ad nL nc ns) pc L S M := by
  intro H locs ls ⟨hM, hLo, hSo, hP, hS, hh⟩
  unfold jo_lload at h
  rcases hL : L.getD i.val none with _ | x | x | x <;> rw [hL] at h <;> try exact False.elim h
  exact lv_lload_n hx hb hd rfl (hh.2.2.2 i.val _ hL) (h H locs ls ⟨hM, hLo, jS_cons (hLo i.val _ hL) hSo, hP, hS, hh⟩)
theorem js_aload (hx : p.tables.exec = Jvm.exec) (hb : c.code = cc) {i : Nat} (hd : ClassFile.decode cc pc = .ok (.aload i, 2)) (h : jo_aload i (pc + 2) L S M (jG p l e R s m args below meth c Z D cI cZ ad nL nc ns)) : (jG p l e R s m args below meth c Z D cI cZ ad nL nc ns) pc L S M := by
  intro H locs ls ⟨hM, hLo, hSo, hP, hS, hh⟩
  unfold jo_aload at h
  rcases hL : L.getD i none with _ | x | x | ⟨a1, a2, a3⟩ <;> rw [hL] at h <;> try exact False.elim h
  exact lv_aload hx hb hd (hh.2.2.2 i _ hL) (h H locs ls ⟨hM, hLo, jS_cons (hLo i _ hL) hSo, hP, hS, hh⟩)
theorem js_aload_n (hx : p.tables.exec = Jvm.exec) (hb : c.code = cc) {i : Fin 4} (hd : ClassFile.decode cc pc = .ok (.aload_n i, 1)) (h : jo_aload i.val (pc + 1) L S M (jG p l e R s m args below meth c Z D cI cZ ad nL nc ns)) : (jG p l e R s m args below meth c Z D cI cZ ad nL nc ns) pc L S M := by
  intro H locs ls ⟨hM, hLo, hSo, hP, hS, hh⟩
  unfold jo_aload at h
  rcases hL : L.getD i.val none with _ | x | x | ⟨a1, a2, a3⟩ <;> rw [hL] at h <;> try exact False.elim h
  exact lv_aload_n hx hb hd rfl (hh.2.2.2 i.val _ hL) (h H locs ls ⟨hM, hLo, jS_cons (hLo i.val _ hL) hSo, hP, hS, hh⟩)
-- stores
theorem js_istore (hx : p.tables.exec = Jvm.exec) (hb : c.code = cc) {i : Nat} (hd : ClassFile.decode cc pc = .ok (.istore i, 2)) (h : jo_istore i (pc + 2) L S M (jG p l e R s m args below meth c Z D cI cZ ad nL nc ns)) : (jG p l e R s m args below meth c Z D cI cZ ad nL nc ns) pc L S M := by
  intro H locs ls ⟨hM, hLo, hSo, hP, hS, hh⟩
  unfold jo_istore at h
  rcases S with _ | ⟨x | x | x, S⟩ <;> try exact False.elim h
  obtain ⟨h1, h⟩ := jcond h
  have hi : i < nL := by rw [← hh.2.2.1]; exact Nat.blt_eq.mp h1
  exact lv_istore hx hb hd (jhas_lv hh) hi rfl (fun ls' h' => h H locs ls' ⟨hM, jLo_set (Nat.blt_eq.mp h1) hLo (jS_hd hSo), jS_tl hSo, hP, hS, jst1 (v := .inl x) hh hi h'⟩)
theorem js_istore_n (hx : p.tables.exec = Jvm.exec) (hb : c.code = cc) {i : Fin 4} (hd : ClassFile.decode cc pc = .ok (.istore_n i, 1)) (h : jo_istore i.val (pc + 1) L S M (jG p l e R s m args below meth c Z D cI cZ ad nL nc ns)) : (jG p l e R s m args below meth c Z D cI cZ ad nL nc ns) pc L S M := by
  intro H locs ls ⟨hM, hLo, hSo, hP, hS, hh⟩
  unfold jo_istore at h
  rcases S with _ | ⟨x | x | x, S⟩ <;> try exact False.elim h
  obtain ⟨h1, h⟩ := jcond h
  have hi : i.val < nL := by rw [← hh.2.2.1]; exact Nat.blt_eq.mp h1
  exact lv_istore_n hx hb hd rfl (jhas_lv hh) hi rfl (fun ls' h' => h H locs ls' ⟨hM, jLo_set (Nat.blt_eq.mp h1) hLo (jS_hd hSo), jS_tl hSo, hP, hS, jst1 (v := .inl x) hh hi h'⟩)
theorem js_lstore (hx : p.tables.exec = Jvm.exec) (hb : c.code = cc) {i : Nat} (hd : ClassFile.decode cc pc = .ok (.lstore i, 2)) (h : jo_lstore i (pc + 2) L S M (jG p l e R s m args below meth c Z D cI cZ ad nL nc ns)) : (jG p l e R s m args below meth c Z D cI cZ ad nL nc ns) pc L S M := by
  intro H locs ls ⟨hM, hLo, hSo, hP, hS, hh⟩
  unfold jo_lstore at h
  rcases S with _ | ⟨x | x | x, S⟩ <;> try exact False.elim h
  obtain ⟨h1, h⟩ := jcond h
  have hi : i + 1 < nL := by rw [← hh.2.2.1]; exact Nat.blt_eq.mp h1
  exact lv_lstore hx hb hd (jhas_lv hh) hi rfl (fun ls' h' => h H locs ls' ⟨hM, jLo_set2 (Nat.blt_eq.mp h1) hLo (jS_hd hSo), jS_tl hSo, hP, hS, jst2 (v := .inr (.inl x)) hh hi h'⟩)
theorem js_lstore_n (hx : p.tables.exec = Jvm.exec) (hb : c.code = cc) {i : Fin 4} (hd : ClassFile.decode cc pc = .ok (.lstore_n i, 1)) (h : jo_lstore i.val (pc + 1) L S M (jG p l e R s m args below meth c Z D cI cZ ad nL nc ns)) : (jG p l e R s m args below meth c Z D cI cZ ad nL nc ns) pc L S M := by
  intro H locs ls ⟨hM, hLo, hSo, hP, hS, hh⟩
  unfold jo_lstore at h
  rcases S with _ | ⟨x | x | x, S⟩ <;> try exact False.elim h
  obtain ⟨h1, h⟩ := jcond h
  have hi : i.val + 1 < nL := by rw [← hh.2.2.1]; exact Nat.blt_eq.mp h1
  exact lv_lstore_n hx hb hd rfl (jhas_lv hh) hi rfl (fun ls' h' => h H locs ls' ⟨hM, jLo_set2 (Nat.blt_eq.mp h1) hLo (jS_hd hSo), jS_tl hSo, hP, hS, jst2 (v := .inr (.inl x)) hh hi h'⟩)
theorem js_astore (hx : p.tables.exec = Jvm.exec) (hb : c.code = cc) {i : Nat} (hd : ClassFile.decode cc pc = .ok (.astore i, 2)) (h : jo_astore i (pc + 2) L S M (jG p l e R s m args below meth c Z D cI cZ ad nL nc ns)) : (jG p l e R s m args below meth c Z D cI cZ ad nL nc ns) pc L S M := by
  intro H locs ls ⟨hM, hLo, hSo, hP, hS, hh⟩
  unfold jo_astore at h
  rcases S with _ | ⟨x | x | ⟨a1, a2, a3⟩, S⟩ <;> try exact False.elim h
  obtain ⟨h1, h⟩ := jcond h
  have hi : i < nL := by rw [← hh.2.2.1]; exact Nat.blt_eq.mp h1
  exact lv_astore hx hb hd (jhas_lv hh) hi rfl (fun ls' h' => h H locs ls' ⟨hM, jLo_set (Nat.blt_eq.mp h1) hLo (jS_hd hSo), jS_tl hSo, hP, hS, jst1 (v := .inr (.inr (a1, a2, a3))) hh hi h'⟩)
theorem js_astore_n (hx : p.tables.exec = Jvm.exec) (hb : c.code = cc) {i : Fin 4} (hd : ClassFile.decode cc pc = .ok (.astore_n i, 1)) (h : jo_astore i.val (pc + 1) L S M (jG p l e R s m args below meth c Z D cI cZ ad nL nc ns)) : (jG p l e R s m args below meth c Z D cI cZ ad nL nc ns) pc L S M := by
  intro H locs ls ⟨hM, hLo, hSo, hP, hS, hh⟩
  unfold jo_astore at h
  rcases S with _ | ⟨x | x | ⟨a1, a2, a3⟩, S⟩ <;> try exact False.elim h
  obtain ⟨h1, h⟩ := jcond h
  have hi : i.val < nL := by rw [← hh.2.2.1]; exact Nat.blt_eq.mp h1
  exact lv_astore_n hx hb hd rfl (jhas_lv hh) hi rfl (fun ls' h' => h H locs ls' ⟨hM, jLo_set (Nat.blt_eq.mp h1) hLo (jS_hd hSo), jS_tl hSo, hP, hS, jst1 (v := .inr (.inr (a1, a2, a3))) hh hi h'⟩)
theorem js_iinc (hx : p.tables.exec = Jvm.exec) (hb : c.code = cc) {i : Nat} {n : Int} (hd : ClassFile.decode cc pc = .ok (.iinc i n, 3)) (h : jo_iinc i n (pc + 3) L S M (jG p l e R s m args below meth c Z D cI cZ ad nL nc ns)) : (jG p l e R s m args below meth c Z D cI cZ ad nL nc ns) pc L S M := by
  intro H locs ls ⟨hM, hLo, hSo, hP, hS, hh⟩
  unfold jo_iinc at h
  rcases hL : L.getD i none with _ | x | x | x <;> rw [hL] at h <;> try exact False.elim h
  obtain ⟨hr, h⟩ := h
  obtain ⟨h1, h⟩ := jcond h
  have hi : i < nL := by rw [← hh.2.2.1]; exact Nat.blt_eq.mp h1
  obtain ⟨k, hk⟩ := List.getElem?_of_mem (jlv_mem (ad := ad) hL)
  exact lv_iinc hx hb hd (jhas_lv hh) (k := k) hk (v := Int32.ofInt (x + n)) (by rw [Int32.ofInt_add]) hi rfl (fun ls' h' => h H locs ls' ⟨hM, jLo_set (Nat.blt_eq.mp h1) hLo hr, hSo, hP, hS, jst1 (v := .inl (x + n)) hh hi h'⟩)
-- constants
theorem js_push (v : jV) (hv : jvk v) {nx : Nat} (row : ∀ (H : Heap) (locs : List Loc) (ls : Array Slot), W p l e R s m args below meth c H locs nc ns Z (F0 m nx ls (jva ad v :: S.map (jva ad))) → W p l e R s m args below meth c H locs nc ns Z (F0 m pc ls (S.map (jva ad)))) (h : (jG p l e R s m args below meth c Z D cI cZ ad nL nc ns) nx L (v :: S) M) : (jG p l e R s m args below meth c Z D cI cZ ad nL nc ns) pc L S M := by
  intro H locs ls ⟨hM, hLo, hSo, hP, hS, hh⟩
  exact row H locs ls (h H locs ls ⟨hM, hLo, jS_cons hv hSo, hP, hS, hh⟩)
-- two ints to one
theorem js_ii {f : Int → Int → Int} {g : Int → Int → Prop} {f32 : Int32 → Int32 → Int32} {nx : Nat}
    (row : ∀ (H : Heap) (locs : List Loc) (ls : Array Slot) (rest : List Value) (x y : Int), jr x → jr y → g x y → W p l e R s m args below meth c H locs nc ns Z (F0 m nx ls (.int (f32 (Int32.ofInt x) (Int32.ofInt y)) :: rest)) → W p l e R s m args below meth c H locs nc ns Z (F0 m pc ls (.int (Int32.ofInt y) :: .int (Int32.ofInt x) :: rest)))
    (hf : ∀ x y, jr x → jr y → g x y → Int32.ofInt (f x y) = f32 (Int32.ofInt x) (Int32.ofInt y) ∧ jr (f x y)) (h : jo_ii f g nx L S M (jG p l e R s m args below meth c Z D cI cZ ad nL nc ns)) : (jG p l e R s m args below meth c Z D cI cZ ad nL nc ns) pc L S M := by
  intro H locs ls ⟨hM, hLo, hSo, hP, hS, hh⟩
  unfold jo_ii at h
  rcases S with _ | ⟨y | y | y, _ | ⟨x | x | x, S⟩⟩ <;> try exact False.elim h
  obtain ⟨hg, h⟩ := h
  have hy : jr y := jS_hd hSo
  have hxx : jr x := jS_hd (jS_tl hSo)
  obtain ⟨e1, e2⟩ := hf x y hxx hy hg
  refine row H locs ls _ x y hxx hy hg ?_
  rw [← e1]
  exact h H locs ls ⟨hM, hLo, jS_cons e2 (jS_tl (jS_tl hSo)), hP, hS, hh⟩
theorem js_i2 {f : Int → Int → Int} {f32 : Int32 → Int32 → Int32} {nx : Nat}
    (row : ∀ (H : Heap) (locs : List Loc) (ls : Array Slot) (rest : List Value) (x y : Int), W p l e R s m args below meth c H locs nc ns Z (F0 m nx ls (.int (f32 (Int32.ofInt x) (Int32.ofInt y)) :: rest)) → W p l e R s m args below meth c H locs nc ns Z (F0 m pc ls (.int (Int32.ofInt y) :: .int (Int32.ofInt x) :: rest)))
    (hf : ∀ x y, f x y = (f32 (Int32.ofInt x) (Int32.ofInt y)).toInt) (h : jo_i2 f nx L S M (jG p l e R s m args below meth c Z D cI cZ ad nL nc ns)) : (jG p l e R s m args below meth c Z D cI cZ ad nL nc ns) pc L S M := by
  intro H locs ls ⟨hM, hLo, hSo, hP, hS, hh⟩
  unfold jo_i2 at h
  rcases S with _ | ⟨y | y | y, _ | ⟨x | x | x, S⟩⟩ <;> try exact False.elim h
  refine row H locs ls _ x y ?_
  have e1 : Int32.ofInt (f x y) = f32 (Int32.ofInt x) (Int32.ofInt y) := by rw [hf, jr_o]
  rw [← e1]
  exact h H locs ls ⟨hM, hLo, jS_cons (by show jr (f x y); rw [hf]; exact jr_r _) (jS_tl (jS_tl hSo)), hP, hS, hh⟩
theorem js_ll {f : Int → Int → Int} {g : Int → Int → Prop} {f64 : Int64 → Int64 → Int64} {nx : Nat}
    (row : ∀ (H : Heap) (locs : List Loc) (ls : Array Slot) (rest : List Value) (x y : Int), jrl x → jrl y → g x y → W p l e R s m args below meth c H locs nc ns Z (F0 m nx ls (.long (f64 (Int64.ofInt x) (Int64.ofInt y)) :: rest)) → W p l e R s m args below meth c H locs nc ns Z (F0 m pc ls (.long (Int64.ofInt y) :: .long (Int64.ofInt x) :: rest)))
    (hf : ∀ x y, jrl x → jrl y → g x y → Int64.ofInt (f x y) = f64 (Int64.ofInt x) (Int64.ofInt y) ∧ jrl (f x y)) (h : jo_ll f g nx L S M (jG p l e R s m args below meth c Z D cI cZ ad nL nc ns)) : (jG p l e R s m args below meth c Z D cI cZ ad nL nc ns) pc L S M := by
  intro H locs ls ⟨hM, hLo, hSo, hP, hS, hh⟩
  unfold jo_ll at h
  rcases S with _ | ⟨y | y | y, _ | ⟨x | x | x, S⟩⟩ <;> try exact False.elim h
  obtain ⟨hg, h⟩ := h
  have hy : jrl y := jS_hd hSo
  have hxx : jrl x := jS_hd (jS_tl hSo)
  obtain ⟨e1, e2⟩ := hf x y hxx hy hg
  refine row H locs ls _ x y hxx hy hg ?_
  rw [← e1]
  exact h H locs ls ⟨hM, hLo, jS_cons e2 (jS_tl (jS_tl hSo)), hP, hS, hh⟩
theorem js_ineg (hx : p.tables.exec = Jvm.exec) (hb : c.code = cc) (hd : ClassFile.decode cc pc = .ok (.ineg, 1)) (h : jo_ineg (pc + 1) L S M (jG p l e R s m args below meth c Z D cI cZ ad nL nc ns)) : (jG p l e R s m args below meth c Z D cI cZ ad nL nc ns) pc L S M := by
  intro H locs ls ⟨hM, hLo, hSo, hP, hS, hh⟩
  unfold jo_ineg at h
  rcases S with _ | ⟨x | x | x, S⟩ <;> try exact False.elim h
  refine lv_ineg hx hb hd ?_
  rw [← Int32.ofInt_neg]
  exact h.2 H locs ls ⟨hM, hLo, jS_cons h.1 (jS_tl hSo), hP, hS, hh⟩
theorem js_i2l (hx : p.tables.exec = Jvm.exec) (hb : c.code = cc) (hd : ClassFile.decode cc pc = .ok (.i2l, 1)) (h : jo_i2l (pc + 1) L S M (jG p l e R s m args below meth c Z D cI cZ ad nL nc ns)) : (jG p l e R s m args below meth c Z D cI cZ ad nL nc ns) pc L S M := by
  intro H locs ls ⟨hM, hLo, hSo, hP, hS, hh⟩
  unfold jo_i2l at h
  rcases S with _ | ⟨x | x | x, S⟩ <;> try exact False.elim h
  have hr : jr x := jS_hd hSo
  have hrl : jrl x := ⟨by have := hr.1; omega, by have := hr.2; omega⟩
  refine lv_i2l hx hb hd (v := Int64.ofInt x) ?_ (h H locs ls ⟨hM, hLo, jS_cons hrl (jS_tl hSo), hP, hS, hh⟩)
  rw [← Int64.toInt_inj, Int32.toInt_toInt64, jr_t hr, jrl_t hrl]
theorem js_lcmp (hx : p.tables.exec = Jvm.exec) (hb : c.code = cc) (hd : ClassFile.decode cc pc = .ok (.lcmp, 1)) (h : jo_lcmp (pc + 1) L S M (jG p l e R s m args below meth c Z D cI cZ ad nL nc ns)) : (jG p l e R s m args below meth c Z D cI cZ ad nL nc ns) pc L S M := by
  intro H locs ls ⟨hM, hLo, hSo, hP, hS, hh⟩
  unfold jo_lcmp at h
  rcases S with _ | ⟨y | y | y, _ | ⟨x | x | x, S⟩⟩ <;> try exact False.elim h
  have hy : jrl y := jS_hd hSo
  have hxx : jrl x := jS_hd (jS_tl hSo)
  refine W.lcmp hx hb hd ?_
  have e1 : lg_cmp (Int64.ofInt x) (Int64.ofInt y) = Int32.ofInt (if y < x then 1 else if x = y then 0 else -1) := by
    unfold lg_cmp
    by_cases h1 : y < x
    · rw [if_pos ((jrl_lt hy hxx).mpr h1), if_pos h1]; rfl
    · rw [if_neg (fun z => h1 ((jrl_lt hy hxx).mp z)), if_neg h1]
      by_cases h2 : x = y
      · rw [if_pos ((jrl_eq hxx hy).mpr h2), if_pos h2]; rfl
      · rw [if_neg (fun z => h2 ((jrl_eq hxx hy).mp z)), if_neg h2]; rfl
  rw [e1]
  refine h H locs ls ⟨hM, hLo, jS_cons ?_ (jS_tl (jS_tl hSo)), hP, hS, hh⟩
  show jr (if y < x then 1 else if x = y then 0 else -1)
  split
  · exact ⟨by decide, by decide⟩
  · split
    · exact ⟨by decide, by decide⟩
    · exact ⟨by decide, by decide⟩
theorem js_dup (hx : p.tables.exec = Jvm.exec) (hb : c.code = cc) (hd : ClassFile.decode cc pc = .ok (.dup, 1)) (h : jo_dup (pc + 1) L S M (jG p l e R s m args below meth c Z D cI cZ ad nL nc ns)) : (jG p l e R s m args below meth c Z D cI cZ ad nL nc ns) pc L S M := by
  intro H locs ls ⟨hM, hLo, hSo, hP, hS, hh⟩
  unfold jo_dup at h
  rcases S with _ | ⟨v, S⟩ <;> try exact False.elim h
  obtain ⟨h1, h⟩ := jcond h
  exact lv_dup hx hb hd (by rw [jcat_va]; exact Nat.eq_of_beq_eq_true h1) (h H locs ls ⟨hM, hLo, jS_cons (jS_hd hSo) hSo, hP, hS, hh⟩)
theorem js_dup2 (hx : p.tables.exec = Jvm.exec) (hb : c.code = cc) (hd : ClassFile.decode cc pc = .ok (.dup2, 1)) (h : jo_dup2 (pc + 1) L S M (jG p l e R s m args below meth c Z D cI cZ ad nL nc ns)) : (jG p l e R s m args below meth c Z D cI cZ ad nL nc ns) pc L S M := by
  intro H locs ls ⟨hM, hLo, hSo, hP, hS, hh⟩
  unfold jo_dup2 at h
  rcases S with _ | ⟨v, _ | ⟨w, S⟩⟩ <;> try exact False.elim h
  obtain ⟨h1, h⟩ := jcond h
  obtain ⟨h1, h2⟩ := jand_t h1
  exact lv_dup2_11 hx hb hd (by rw [jcat_va]; exact Nat.eq_of_beq_eq_true h1) (by rw [jcat_va]; exact Nat.eq_of_beq_eq_true h2) (h H locs ls ⟨hM, hLo, jS_cons (jS_hd hSo) (jS_cons (jS_hd (jS_tl hSo)) hSo), hP, hS, hh⟩)
-- branches
theorem js_if {q : Int → Prop} {q32 : Int32 → Prop} {tg nx : Nat}
    (row : ∀ (H : Heap) (locs : List Loc) (ls : Array Slot) (rest : List Value) (x : Int32), (q32 x → W p l e R s m args below meth c H locs nc ns Z (F0 m tg ls rest)) → (¬ q32 x → W p l e R s m args below meth c H locs nc ns Z (F0 m nx ls rest)) → W p l e R s m args below meth c H locs nc ns Z (F0 m pc ls (.int x :: rest)))
    (hq : ∀ x, jr x → (q32 (Int32.ofInt x) ↔ q x)) (h : jo_if q tg nx L S M (jG p l e R s m args below meth c Z D cI cZ ad nL nc ns)) : (jG p l e R s m args below meth c Z D cI cZ ad nL nc ns) pc L S M := by
  intro H locs ls ⟨hM, hLo, hSo, hP, hS, hh⟩
  unfold jo_if at h
  rcases S with _ | ⟨x | x | x, S⟩ <;> try exact False.elim h
  have hxx : jr x := jS_hd hSo
  exact row H locs ls _ _ (fun z => h.1 ((hq x hxx).mp z) H locs ls ⟨hM, hLo, jS_tl hSo, hP, hS, hh⟩) (fun z => h.2 (fun w => z ((hq x hxx).mpr w)) H locs ls ⟨hM, hLo, jS_tl hSo, hP, hS, hh⟩)
theorem js_icmp {q : Int → Int → Prop} {q32 : Int32 → Int32 → Prop} {tg nx : Nat}
    (row : ∀ (H : Heap) (locs : List Loc) (ls : Array Slot) (rest : List Value) (x y : Int32), (q32 x y → W p l e R s m args below meth c H locs nc ns Z (F0 m tg ls rest)) → (¬ q32 x y → W p l e R s m args below meth c H locs nc ns Z (F0 m nx ls rest)) → W p l e R s m args below meth c H locs nc ns Z (F0 m pc ls (.int y :: .int x :: rest)))
    (hq : ∀ x y, jr x → jr y → (q32 (Int32.ofInt x) (Int32.ofInt y) ↔ q x y)) (h : jo_icmp q tg nx L S M (jG p l e R s m args below meth c Z D cI cZ ad nL nc ns)) : (jG p l e R s m args below meth c Z D cI cZ ad nL nc ns) pc L S M := by
  intro H locs ls ⟨hM, hLo, hSo, hP, hS, hh⟩
  unfold jo_icmp at h
  rcases S with _ | ⟨y | y | y, _ | ⟨x | x | x, S⟩⟩ <;> try exact False.elim h
  have hy : jr y := jS_hd hSo
  have hxx : jr x := jS_hd (jS_tl hSo)
  exact row H locs ls _ _ _ (fun z => h.1 ((hq x y hxx hy).mp z) H locs ls ⟨hM, hLo, jS_tl (jS_tl hSo), hP, hS, hh⟩) (fun z => h.2 (fun w => z ((hq x y hxx hy).mpr w)) H locs ls ⟨hM, hLo, jS_tl (jS_tl hSo), hP, hS, hh⟩)
theorem js_goto (hx : p.tables.exec = Jvm.exec) (hb : c.code = cc) {off : Int} {tg : Nat} (hd : ClassFile.decode cc pc = .ok (.goto off, 3)) (ht : (pc : Int) + off = (tg : Int)) (h : (jG p l e R s m args below meth c Z D cI cZ ad nL nc ns) tg L S M) : (jG p l e R s m args below meth c Z D cI cZ ad nL nc ns) pc L S M :=
  fun H locs ls hI => lv_goto hx hb hd ht (h H locs ls hI)
theorem js_nonnull (hx : p.tables.exec = Jvm.exec) (hb : c.code = cc) {off : Int} {tg : Nat} (hd : ClassFile.decode cc pc = .ok (.ifnonnull off, 3)) (ht : (pc : Int) + off = (tg : Int)) (h : jo_nonnull tg L S M (jG p l e R s m args below meth c Z D cI cZ ad nL nc ns)) : (jG p l e R s m args below meth c Z D cI cZ ad nL nc ns) pc L S M := by
  intro H locs ls ⟨hM, hLo, hSo, hP, hS, hh⟩
  unfold jo_nonnull at h
  rcases S with _ | ⟨x | x | ⟨a1, a2, a3⟩, S⟩ <;> try exact False.elim h
  exact lv_ifnonnull hx hb hd ht (h H locs ls ⟨hM, hLo, jS_tl hSo, hP, hS, hh⟩)
theorem jsw_cases {x : Int} {tg : Nat} {K : jK} : ∀ (sw : List (Int × Nat)), jo_sw x tg L S M K sw → (∃ t, (x, t) ∈ sw ∧ K t L S M) ∨ ((∀ e, e ∈ sw → ¬ e.1 = x) ∧ K tg L S M)
  | [], h => Or.inr ⟨fun e q => absurd q List.not_mem_nil, h⟩
  | (k, t) :: r, h => by
    by_cases e : x = k
    · subst e
      exact Or.inl ⟨t, List.mem_cons_self, h.1 rfl⟩
    · rcases jsw_cases r (h.2 e) with ⟨t', h1, h2⟩ | ⟨h1, h2⟩
      · exact Or.inl ⟨t', List.mem_cons_of_mem _ h1, h2⟩
      · refine Or.inr ⟨fun g q => ?_, h2⟩
        rcases List.mem_cons.mp q with rfl | q
        · exact fun z => e z.symm
        · exact h1 g q
theorem js_table (hx : p.tables.exec = Jvm.exec) (hb : c.code = cc) {d lo hi : Int} {offs : Array Int} {len tg : Nat} {sw : List (Int × Nat)} (hd : ClassFile.decode cc pc = .ok (.tableswitch d lo hi offs, len))
    (h1 : (pc : Int) + d = (tg : Int)) (h2 : hi - lo + 1 = (offs.size : Int)) (h3 : ∀ e, e ∈ sw → (lo ≤ e.1 ∧ e.1 ≤ hi) ∧ offs[(e.1 - lo).toNat]? = some ((e.2 : Int) - (pc : Int)))
    (h4 : ∀ j, j < offs.size → offs[j]? = some d ∨ ∃ e, e ∈ sw ∧ e.1 = lo + (j : Int)) (h : jo_switch tg sw L S M (jG p l e R s m args below meth c Z D cI cZ ad nL nc ns)) : (jG p l e R s m args below meth c Z D cI cZ ad nL nc ns) pc L S M := by
  intro H locs ls ⟨hM, hLo, hSo, hP, hS, hh⟩
  unfold jo_switch at h
  rcases S with _ | ⟨x | x | x, S⟩ <;> try exact False.elim h
  have hxx : jr x := jS_hd hSo
  have ht : (Int32.ofInt x).toInt = x := jr_t hxx
  rcases jsw_cases sw h with ⟨t, q1, q2⟩ | ⟨q1, q2⟩
  · obtain ⟨⟨r1, r2⟩, r3⟩ := h3 _ q1
    exact lv_tableIn hx hb hd (by rw [ht]; omega) (by rw [ht]; omega) (by rw [ht]; exact r3) (by omega) (q2 H locs ls ⟨hM, hLo, jS_tl hSo, hP, hS, hh⟩)
  · by_cases hr : x < lo ∨ hi < x
    · exact lv_tableOut hx hb hd (by rw [ht]; exact hr) h1 (q2 H locs ls ⟨hM, hLo, jS_tl hSo, hP, hS, hh⟩)
    · have hj : (x - lo).toNat < offs.size := by omega
      rcases h4 _ hj with r | ⟨g, g1, g2⟩
      · exact lv_tableIn hx hb hd (by rw [ht]; omega) (by rw [ht]; omega) (by rw [ht]; exact r) h1 (q2 H locs ls ⟨hM, hLo, jS_tl hSo, hP, hS, hh⟩)
      · exact absurd (by rw [g2]; omega) (q1 g g1)
theorem jlook_in : ∀ (ps : List (Int × Int)) (d x o : Int), (∀ a b, (x, a) ∈ ps → (x, b) ∈ ps → a = b) → (x, o) ∈ ps → Op.lookupswitch.offset ps d x = o
  | [], _, _, _, _, h => absurd h List.not_mem_nil
  | (a, b) :: r, d, x, o, hu, h => by
    rw [Op.lookupswitch.offset_cons]
    by_cases e : a = x
    · subst e
      rw [if_pos rfl]
      exact hu _ _ List.mem_cons_self h
    · rw [if_neg e]
      rcases List.mem_cons.mp h with q | q
      · cases q; exact absurd rfl e
      · exact jlook_in r d x o (fun a b ha hb => hu a b (List.mem_cons_of_mem _ ha) (List.mem_cons_of_mem _ hb)) q
theorem jlook_out : ∀ (ps : List (Int × Int)) (d x : Int), (∀ e, e ∈ ps → e.1 = x → e.2 = d) → Op.lookupswitch.offset ps d x = d
  | [], _, _, _ => rfl
  | (a, b) :: r, d, x, h => by
    rw [Op.lookupswitch.offset_cons]
    by_cases e : a = x
    · rw [if_pos e]; exact h _ List.mem_cons_self e
    · rw [if_neg e]; exact jlook_out r d x (fun e he => h e (List.mem_cons_of_mem _ he))
theorem jlook_uniq : ∀ (ps : List (Int × Int)), (ps.zip (ps.drop 1)).all (fun (a, next) => a.1 < next.1) = true → ∀ x a b, (x, a) ∈ ps → (x, b) ∈ ps → a = b := by
  have key : ∀ (ps : List (Int × Int)) (y : Int × Int), ((y :: ps).zip ((y :: ps).drop 1)).all (fun (a, next) => a.1 < next.1) = true → ∀ e, e ∈ ps → y.1 < e.1 := by
    intro ps
    induction ps with
    | nil => intro y _ e he; exact absurd he List.not_mem_nil
    | cons z r ih =>
      intro y h e he
      simp only [List.drop_succ_cons, List.drop_zero, List.zip_cons_cons, List.all_cons, Bool.and_eq_true, decide_eq_true_eq] at h
      rcases List.mem_cons.mp he with rfl | he
      · exact h.1
      · exact Int.lt_trans h.1 (ih z (by simpa using h.2) e he)
  intro ps
  induction ps with
  | nil => intro _ x a b h; exact absurd h List.not_mem_nil
  | cons y r ih =>
    intro h x a b ha hb
    have hk := key r y h
    have hr : (r.zip (r.drop 1)).all (fun (a, next) => a.1 < next.1) = true := by
      cases r with
      | nil => rfl
      | cons z r =>
        simp only [List.drop_succ_cons, List.drop_zero, List.zip_cons_cons, List.all_cons, Bool.and_eq_true] at h
        simpa using h.2
    rcases List.mem_cons.mp ha with e1 | ha' <;> rcases List.mem_cons.mp hb with e2 | hb'
    · rw [← e1] at e2; cases e2; rfl
    · have h9 := hk _ hb'; rw [← e1] at h9; exact absurd h9 (Int.lt_irrefl _)
    · have h9 := hk _ ha'; rw [← e2] at h9; exact absurd h9 (Int.lt_irrefl _)
    · exact ih hr x a b ha' hb'
theorem js_look (hx : p.tables.exec = Jvm.exec) (hb : c.code = cc) {d : Int} {ps : Array (Int × Int)} {len tg : Nat} {sw : List (Int × Nat)} (hd : ClassFile.decode cc pc = .ok (.lookupswitch d ps, len))
    (h1 : (pc : Int) + d = (tg : Int)) (h2 : (ps.toList.zip (ps.toList.drop 1)).all (fun (a, next) => a.1 < next.1) = true) (h3 : ∀ e, e ∈ sw → (e.1, (e.2 : Int) - (pc : Int)) ∈ ps.toList)
    (h4 : ∀ e, e ∈ ps.toList → e.2 = d ∨ ∃ g, g ∈ sw ∧ g.1 = e.1) (h : jo_switch tg sw L S M (jG p l e R s m args below meth c Z D cI cZ ad nL nc ns)) : (jG p l e R s m args below meth c Z D cI cZ ad nL nc ns) pc L S M := by
  intro H locs ls ⟨hM, hLo, hSo, hP, hS, hh⟩
  unfold jo_switch at h
  rcases S with _ | ⟨x | x | x, S⟩ <;> try exact False.elim h
  have hxx : jr x := jS_hd hSo
  have ht : (Int32.ofInt x).toInt = x := jr_t hxx
  rcases jsw_cases sw h with ⟨t, q1, q2⟩ | ⟨q1, q2⟩
  · exact lv_lookup hx hb hd h2 (off := (t : Int) - (pc : Int)) (by rw [ht]; exact jlook_in _ _ _ _ (jlook_uniq _ h2 x) (h3 _ q1)) (by omega) (q2 H locs ls ⟨hM, hLo, jS_tl hSo, hP, hS, hh⟩)
  · have h9 : Op.lookupswitch.offset ps.toList d x = d := by
      refine jlook_out _ _ _ (fun g hg e => ?_)
      rcases h4 g hg with r | ⟨g', r1, r2⟩
      · exact r
      · exact absurd (r2.trans e) (q1 g' r1)
    exact lv_lookup hx hb hd h2 (off := d) (by rw [ht]; exact h9) h1 (q2 H locs ls ⟨hM, hLo, jS_tl hSo, hP, hS, hh⟩)
end JRows
