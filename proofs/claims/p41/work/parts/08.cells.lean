-- Fields, arrays, constants, returns
def jNf (ci : Nat) : Nat := match ci with
  | 0 => 9
  | _ => 10
def jtyF (ci : Nat) : Nat → FieldType := match ci with
  | 0 => tyX0
  | _ => tyX1
theorem jcl_at {ci : Nat} (h : ci < 2) : vwCl[ci]? = some (jcn ci, jTn ci, jNf ci) := by
  rcases ci with _ | _ | n
  · rfl
  · rfl
  · omega
theorem jcl_in {ci : Nat} (h : ci < 2) : ∀ w ∈ u_ws (jcn ci) (jTn ci) (jNf ci), w ∈ wsL_law := by
  rcases ci with _ | _ | n
  · exact inlX0
  · exact inlX1
  · omega
theorem jcl_ty {ci : Nat} (h : ci < 2) : ∀ k, k < jNf ci → parseFieldDescriptor (jTn ci k).2.2.1 = some (jtyF ci k) := by
  rcases ci with _ | _ | n
  · exact tyX0_ok
  · exact tyX1_ok
  · omega
theorem jcl_nm {ci : Nat} (h : ci < 2) : ∀ a, a < jNf ci → ∀ b, b < jNf ci → a ≠ b → (jTn ci a).2.1 ≠ (jTn ci b).2.1 := by
  rcases ci with _ | _ | n
  · exact nmX0
  · exact nmX1
  · omega
theorem jfs_len {ci : Nat} (h : ci < 2) : (jfs ci).length = jNf ci := by
  rcases ci with _ | _ | n
  · rfl
  · rfl
  · omega
theorem jshp_ob {k i c ci : Nat} (h : jok k i c) (hs : jshp k c = .inr (.inr ci)) : ci = k ∧ c = 0 ∧ ci < 2 := by
  rcases h with ⟨rfl, -, h2⟩ | ⟨rfl, -, h2⟩ | ⟨rfl, -, rfl⟩
  · rcases c with _ | _ | _ | _ | _ | _ | c <;> first | (cases hs; exact ⟨rfl, rfl, by decide⟩) | cases hs | omega
  · rcases c with _ | _ | _ | _ | c <;> first | (cases hs; exact ⟨rfl, rfl, by decide⟩) | cases hs | omega
  · cases hs
theorem jfs_ref {k i f : Nat} {g : Nat → Nat × Nat × Nat} (h : jok k i 0) (hk : k < 2) (hf : (jfs k)[f]? = some (.inr g)) : jok (g i).1 (g i).2.1 (g i).2.2 := by
  rcases h with ⟨rfl, h1, -⟩ | ⟨rfl, rfl, -⟩ | ⟨rfl, -, -⟩
  · rcases f with _ | _ | _ | _ | _ | _ | _ | _ | _ | f <;> first | (cases hf; exact Or.inl ⟨rfl, h1, Nat.le_of_ble_eq_true rfl⟩) | cases hf
  · rcases f with _ | _ | _ | _ | _ | _ | _ | _ | _ | _ | f <;> first | (cases hf; exact Or.inl ⟨rfl, by decide, by decide⟩) | (cases hf; exact Or.inr (Or.inl ⟨rfl, rfl, by decide⟩)) | cases hf
  · omega
theorem jfs_int {ci f : Nat} {b : Bool} (h : ci < 2) (hf : (jfs ci)[f]? = some (.inl b)) : jtyF ci f = (if b then .boolean else .int) ∧ (jTn ci f).2.2.2 = false := by
  rcases ci with _ | _ | n
  · rcases f with _ | _ | _ | _ | _ | _ | _ | _ | _ | f <;> first | (cases hf; exact ⟨rfl, rfl⟩) | cases hf
  · rcases f with _ | _ | _ | _ | _ | _ | _ | _ | _ | _ | f <;> first | (cases hf; exact ⟨rfl, rfl⟩) | cases hf
  · omega
def jfw (ad : Nat → Nat) (M : jM) (k i c n : Nat) : jF → Value
  | .inl _ => .int (Int32.ofInt (M k i c n))
  | .inr g => jva ad (.inr (.inr (g i)))
theorem jfv_of {ad : Nat → Nat} {M : jM} {k i c n : Nat} {fs : List jF} {ft : jF} (hf : fs[n]? = some ft) : jfv ad M k i c fs n = jfw ad M k i c n ft := by
  unfold jfv
  rw [List.getD_eq_getElem?_getD, hf]
  rcases ft with b | g <;> rfl
theorem jfld_get {ad : Nat → Nat} {M : jM} {k i c f : Nat} {fs : List jF} (h : f < fs.length) : ((List.range fs.length).map (jfv ad M k i c fs))[f]? = some (jfv ad M k i c fs f) := by
  rw [List.getElem?_map, List.getElem?_range h]; rfl
theorem jfld_put {ad : Nat → Nat} {M : jM} {k i c f : Nat} {fs : List jF} {x : Int} {b : Bool} (hf : fs[f]? = some (.inl b)) : ((List.range fs.length).map (jfv ad M k i c fs)).set f (.int (Int32.ofInt x)) = (List.range fs.length).map (jfv ad (jupd M k i c f x) k i c fs) := by
  have hl : f < fs.length := (List.getElem?_eq_some_iff.mp hf).1
  apply List.ext_getElem?
  intro q
  by_cases hq : q < fs.length
  · rw [jfld_get (M := jupd M k i c f x) hq]
    by_cases e : f = q
    · subst e
      rw [List.getElem?_set_self (by simpa using hq)]
      unfold jfv
      rw [List.getD_eq_getElem?_getD, hf]
      show some (Value.int (Int32.ofInt x)) = some (Value.int (Int32.ofInt (jupd M k i c f x k i c f)))
      rw [jupd_at]
    · rw [List.getElem?_set_ne e, jfld_get hq]
      unfold jfv
      rw [jupd_j _ _ _ _ _ _ (Ne.symm e)]
  · rw [List.getElem?_eq_none (by simpa using hq), List.getElem?_eq_none (by simpa using hq)]
theorem jcell_ob {cI cZ : ClassId} {ad : Nat → Nat} {M : jM} {k i c ci : Nat} (h : jshp k c = .inr (.inr ci)) : jcell cI cZ ad M (k, i, c) = .inr (ci, (List.range (jfs ci).length).map (jfv ad M k i c (jfs ci))) := by
  unfold jcell; dsimp only; rw [h]
theorem jcell_in {cI cZ : ClassId} {ad : Nat → Nat} {M : jM} {k i c n : Nat} (h : jshp k c = .inl n) : jcell cI cZ ad M (k, i, c) = .inl (cI, n, .inl (fun j => Int32.ofInt (M k i c j))) := by
  unfold jcell; dsimp only; rw [h]
theorem jcell_zn {cI cZ : ClassId} {ad : Nat → Nat} {M : jM} {k i c n : Nat} (h : jshp k c = .inr (.inl n)) : jcell cI cZ ad M (k, i, c) = .inl (cZ, n, .inl (fun j => Int32.ofInt (M k i c j))) := by
  unfold jcell; dsimp only; rw [h]
theorem jupd_row {M : jM} {k i c j : Nat} {x : Int} : (fun j' => Int32.ofInt (jupd M k i c j x k i c j')) = upd (fun j' => Int32.ofInt (M k i c j')) j (Int32.ofInt x) := by
  funext j'
  unfold upd
  by_cases e : j' = j
  · subst e; rw [if_pos rfl, jupd_at]
  · rw [if_neg e, jupd_j _ _ _ _ _ _ e]
theorem jst_ok {q : Nat × Nat × Nat} {cj : Nat} (h : jokr q) (hs : jshp q.1 q.2.2 = .inr (.inr cj)) : jok q.1 q.2.1 q.2.2 := by
  rcases h with h | ⟨h1, h2, h3⟩ | h1
  · exact h
  · obtain ⟨a, b, d⟩ := q
    dsimp only at h1 h3 hs
    subst h1; subst h3
    cases hs
  · subst h1; cases hs
theorem jst_ok1 {q : Nat × Nat × Nat} {n : Nat} {j : Int} (h : jokr q) (hs : jshp q.1 q.2.2 = .inl n) (h0 : 0 ≤ j) (hn : j < n) : jok q.1 q.2.1 q.2.2 := by
  rcases h with h | ⟨h1, h2, h3⟩ | h1
  · exact h
  · obtain ⟨a, b, d⟩ := q
    dsimp only at h1 h3 hs
    subst h1; subst h3
    cases hs
    exact absurd hn (by simp; exact h0)
  · subst h1; cases hs
    exact absurd hn (by simp; exact h0)
theorem jst_ok2 {q : Nat × Nat × Nat} {n : Nat} (h : jokr q) (hs : jshp q.1 q.2.2 = .inr (.inl n)) : jok q.1 q.2.1 q.2.2 := by
  rcases h with h | ⟨h1, h2, h3⟩ | h1
  · exact h
  · obtain ⟨a, b, d⟩ := q
    dsimp only at h1 h3 hs
    subst h1; subst h3
    cases hs
  · subst h1; cases hs
section JCells
variable {p : Program} {l : Launch} {e : Env} {R : Room} {s : State} {m : MethodId} {args : Array Value} {below : List Frame} {meth : Method} {c : Code} {Z : State → Prop} {D : va_G} {cI cZ : ClassId} {ad : Nat → Nat} {nL nc ns : Nat} {cc : ByteArray} {pc : Nat} {L : jLo} {S : List jV} {M : jM}
theorem js_get (hx : p.tables.exec = Jvm.exec) (hb : c.code = cc) {o : Nat} (hown : s.vm.findClass (jcn o) = some m.cls) (hts : ∀ w ∈ wsL_law, w.before args s = true) (hK : va_K D vwCl [(cI, .int), (cZ, .boolean)] s) {idx ci f : Nat}
    (hd : ClassFile.decode cc pc = .ok (.getfield idx, 3)) (hl : Cond.fieldLink (jcn o) idx (jTn ci f).1 (jTn ci f).2.1 (jTn ci f).2.2.1 ∈ wsL_law) (h : jo_get ci f (pc + 3) L S M (jG p l e R s m args below meth c Z D cI cZ ad nL nc ns)) : (jG p l e R s m args below meth c Z D cI cZ ad nL nc ns) pc L S M := by
  intro H locs ls ⟨hM, hLo, hSo, hP, hS, hh⟩
  unfold jo_get at h
  rcases S with _ | ⟨x | x | ⟨k, i, pt⟩, S⟩ <;> try exact False.elim h
  dsimp only at h
  rcases hsh : jshp k pt with n | n | cj <;> rw [hsh] at h <;> try exact False.elim h
  obtain ⟨h1, h⟩ := jcond h
  have e1 : cj = ci := Nat.eq_of_beq_eq_true h1
  subst e1
  have hok : jok k i pt := jst_ok (q := (k, i, pt)) (jS_hd hSo) hsh
  obtain ⟨e2, e3, hci⟩ := jshp_ob hok hsh
  subst e2; subst e3
  have hw := jws_at cI cZ ad M hok
  rw [jcell_ob hsh] at hw
  rw [List.getD_eq_getElem?_getD] at h
  cases hf : (jfs cj)[f]? with
  | none => rw [hf] at h; exact False.elim h
  | some ft =>
    rw [hf] at h
    have hfl : f < (jfs cj).length := (List.getElem?_eq_some_iff.mp hf).1
    refine va_get (C := jcn cj) (T := jTn cj) (N := jNf cj) (ref := (jTn cj f).1) (index := idx) hx hb hts (jcl_in hci) hown hK hP _ hw (jcl_at hci) f (by rw [← jfs_len hci]; exact hfl) (hts _ hl) (fun _ z => z) (jfld_get hfl) hd ?_
    rw [jfv_of hf]
    rcases ft with bb | g
    · exact h H locs ls ⟨hM, hLo, jS_cons (hM _ _ _ _) (jS_tl hSo), hP, hS, hh⟩
    · have h' : (bif Nat.beq (g i).1 8 then False else (jG p l e R s m args below meth c Z D cI cZ ad nL nc ns) (pc + 3) L (.inr (.inr (g i)) :: S) M) := h
      have hg := jfs_ref hok hci hf
      cases hb8 : Nat.beq (g i).1 8 with
      | true => rw [hb8] at h'; exact False.elim h'
      | false =>
        rw [hb8] at h'
        exact h' H locs ls ⟨hM, hLo, jS_cons (Or.inl hg) (jS_tl hSo), hP, hS, hh⟩
theorem js_put (hx : p.tables.exec = Jvm.exec) (hb : c.code = cc) {o : Nat} (hown : s.vm.findClass (jcn o) = some m.cls) (hts : ∀ w ∈ wsL_law, w.before args s = true) (hK : va_K D vwCl [(cI, .int), (cZ, .boolean)] s) (hi : ∀ i j, i < 29 → j < 29 → ad i = ad j → i = j) {idx ci f : Nat}
    (hd : ClassFile.decode cc pc = .ok (.putfield idx, 3)) (hl : Cond.fieldLink (jcn o) idx (jTn ci f).1 (jTn ci f).2.1 (jTn ci f).2.2.1 ∈ wsL_law) (h : jo_put ci f (pc + 3) L S M (jG p l e R s m args below meth c Z D cI cZ ad nL nc ns)) : (jG p l e R s m args below meth c Z D cI cZ ad nL nc ns) pc L S M := by
  intro H locs ls ⟨hM, hLo, hSo, hP, hS, hh⟩
  unfold jo_put at h
  rcases S with _ | ⟨x | x | x, _ | ⟨y | y | ⟨k, i, pt⟩, S⟩⟩ <;> try exact False.elim h
  dsimp only at h
  rcases hsh : jshp k pt with n | n | cj <;> rw [hsh] at h <;> try exact False.elim h
  obtain ⟨h1, h⟩ := jcond h
  have e1 : cj = ci := Nat.eq_of_beq_eq_true h1
  subst e1
  have hok : jok k i pt := jst_ok (q := (k, i, pt)) (jS_hd (jS_tl hSo)) hsh
  obtain ⟨e2, e3, hci⟩ := jshp_ob hok hsh
  subst e2; subst e3
  have hw := jws_at cI cZ ad M hok
  rw [jcell_ob hsh] at hw
  rw [List.getD_eq_getElem?_getD] at h
  have hxr : jr x := jS_hd hSo
  cases hf : (jfs cj)[f]? with
  | none => rw [hf] at h; exact False.elim h
  | some ft =>
    rw [hf] at h
    have hfl : f < (jfs cj).length := (List.getElem?_eq_some_iff.mp hf).1
    rcases ft with bb | g
    · obtain ⟨t1, t2⟩ := jfs_int hci hf
      have key : narrow (if bb then FieldType.boolean else .int) (.int (Int32.ofInt x)) = .int (Int32.ofInt x) ∧ fits (if bb then FieldType.boolean else .int) (.int (Int32.ofInt x)) = true ∧ (jG p l e R s m args below meth c Z D cI cZ ad nL nc ns) (pc + 3) L S (jupd M cj i 0 f x) := by
        cases bb
        · exact ⟨rfl, rfl, h⟩
        · rcases h.1 with rfl | rfl
          · exact ⟨rfl, rfl, h.2⟩
          · exact ⟨rfl, rfl, h.2⟩
      refine va_put (C := jcn cj) (T := jTn cj) (N := jNf cj) (ref := (jTn cj f).1) (index := idx) (ty := (if bb then FieldType.boolean else .int)) hx hb hts (jcl_in hci) (jtyF cj) (jcl_ty hci) (jcl_nm hci) hown hK hP (jD hi) hS _ hw (jcl_at hci) f (by rw [← jfs_len hci]; exact hfl) (hts _ hl) (fun _ z => z) t2 (by rw [jcl_ty hci f (by rw [← jfs_len hci]; exact hfl), t1]) key.1 key.2.1 (by simpa using hfl) hd (fun H1 locs1 hP1 _ hS1 => ?_)
      rw [show jva ad (Sum.inl x) = .int (Int32.ofInt x) from rfl, jfld_put hf, ← jcell_ob (cI := cI) (cZ := cZ) hsh, jws_set cI cZ ad M hok] at hP1
      exact key.2.2 H1 locs1 ls ⟨jMr_upd hM hxr, hLo, jS_tl (jS_tl hSo), hP1, hS1, hh⟩
    · exact False.elim h
theorem js_iald (hx : p.tables.exec = Jvm.exec) (hb : c.code = cc) (hK : va_K D vwCl [(cI, .int), (cZ, .boolean)] s) (hd : ClassFile.decode cc pc = .ok (.iaload, 1)) (h : jo_iald (pc + 1) L S M (jG p l e R s m args below meth c Z D cI cZ ad nL nc ns)) : (jG p l e R s m args below meth c Z D cI cZ ad nL nc ns) pc L S M := by
  intro H locs ls ⟨hM, hLo, hSo, hP, hS, hh⟩
  unfold jo_iald at h
  rcases S with _ | ⟨x | x | x, _ | ⟨y | y | ⟨k, i, pt⟩, S⟩⟩ <;> try exact False.elim h
  dsimp only at h
  rcases hsh : jshp k pt with n | n | cj <;> rw [hsh] at h <;> try exact False.elim h
  obtain ⟨⟨h0, hn⟩, h⟩ := h
  have hxr : jr x := jS_hd hSo
  have hok : jok k i pt := jst_ok1 (q := (k, i, pt)) (jS_hd (jS_tl hSo)) hsh h0 hn
  have hw := jws_at cI cZ ad M hok
  rw [jcell_in hsh] at hw
  refine va_iald hx hb hK hP _ 0 hw rfl (jr_in hxr h0 hn) hd ?_
  rw [jr_cl hxr]
  exact h H locs ls ⟨hM, hLo, jS_cons (hM _ _ _ _) (jS_tl (jS_tl hSo)), hP, hS, hh⟩
theorem js_zald (hx : p.tables.exec = Jvm.exec) (hb : c.code = cc) (hK : va_K D vwCl [(cI, .int), (cZ, .boolean)] s) (hd : ClassFile.decode cc pc = .ok (.baload, 1)) (h : jo_zald (pc + 1) L S M (jG p l e R s m args below meth c Z D cI cZ ad nL nc ns)) : (jG p l e R s m args below meth c Z D cI cZ ad nL nc ns) pc L S M := by
  intro H locs ls ⟨hM, hLo, hSo, hP, hS, hh⟩
  unfold jo_zald at h
  rcases S with _ | ⟨x | x | x, _ | ⟨y | y | ⟨k, i, pt⟩, S⟩⟩ <;> try exact False.elim h
  dsimp only at h
  rcases hsh : jshp k pt with n | n | cj <;> rw [hsh] at h <;> try exact False.elim h
  obtain ⟨⟨h0, hn⟩, h⟩ := h
  have hxr : jr x := jS_hd hSo
  have hok : jok k i pt := jst_ok2 (q := (k, i, pt)) (jS_hd (jS_tl hSo)) hsh
  have hw := jws_at cI cZ ad M hok
  rw [jcell_zn hsh] at hw
  refine va_zald hx hb hK hP _ 1 hw rfl (jr_in hxr h0 hn) hd ?_
  rw [jr_cl hxr]
  exact h H locs ls ⟨hM, hLo, jS_cons (hM _ _ _ _) (jS_tl (jS_tl hSo)), hP, hS, hh⟩
theorem js_iast (hx : p.tables.exec = Jvm.exec) (hb : c.code = cc) (hK : va_K D vwCl [(cI, .int), (cZ, .boolean)] s) (hi : ∀ i j, i < 29 → j < 29 → ad i = ad j → i = j) (hd : ClassFile.decode cc pc = .ok (.iastore, 1)) (h : jo_iast (pc + 1) L S M (jG p l e R s m args below meth c Z D cI cZ ad nL nc ns)) : (jG p l e R s m args below meth c Z D cI cZ ad nL nc ns) pc L S M := by
  intro H locs ls ⟨hM, hLo, hSo, hP, hS, hh⟩
  unfold jo_iast at h
  rcases S with _ | ⟨x | x | x, _ | ⟨y | y | y, _ | ⟨z | z | ⟨k, i, pt⟩, S⟩⟩⟩ <;> try exact False.elim h
  dsimp only at h
  rcases hsh : jshp k pt with n | n | cj <;> rw [hsh] at h <;> try exact False.elim h
  obtain ⟨⟨h0, hn⟩, h⟩ := h
  have hxr : jr x := jS_hd hSo
  have hyr : jr y := jS_hd (jS_tl hSo)
  have hok : jok k i pt := jst_ok1 (q := (k, i, pt)) (jS_hd (jS_tl (jS_tl hSo))) hsh h0 hn
  have hw := jws_at cI cZ ad M hok
  rw [jcell_in hsh] at hw
  refine va_iast hx hb hK hP (jD hi) hS _ 0 hw rfl (jr_in hyr h0 hn) hd (fun H1 locs1 hP1 _ hS1 => ?_)
  rw [jr_cl hyr, ← jupd_row, ← jcell_in (cI := cI) (cZ := cZ) (ad := ad) hsh, jws_set cI cZ ad M hok] at hP1
  exact h H1 locs1 ls ⟨jMr_upd hM hxr, hLo, jS_tl (jS_tl (jS_tl hSo)), hP1, hS1, hh⟩
theorem js_zast (hx : p.tables.exec = Jvm.exec) (hb : c.code = cc) (hK : va_K D vwCl [(cI, .int), (cZ, .boolean)] s) (hi : ∀ i j, i < 29 → j < 29 → ad i = ad j → i = j) (hd : ClassFile.decode cc pc = .ok (.bastore, 1)) (h : jo_zast (pc + 1) L S M (jG p l e R s m args below meth c Z D cI cZ ad nL nc ns)) : (jG p l e R s m args below meth c Z D cI cZ ad nL nc ns) pc L S M := by
  intro H locs ls ⟨hM, hLo, hSo, hP, hS, hh⟩
  unfold jo_zast at h
  rcases S with _ | ⟨x | x | x, _ | ⟨y | y | y, _ | ⟨z | z | ⟨k, i, pt⟩, S⟩⟩⟩ <;> try exact False.elim h
  dsimp only at h
  rcases hsh : jshp k pt with n | n | cj <;> rw [hsh] at h <;> try exact False.elim h
  obtain ⟨⟨⟨h0, hn⟩, h01⟩, h⟩ := h
  have hxr : jr x := jS_hd hSo
  have hyr : jr y := jS_hd (jS_tl hSo)
  have hok : jok k i pt := jst_ok2 (q := (k, i, pt)) (jS_hd (jS_tl (jS_tl hSo))) hsh
  have hw := jws_at cI cZ ad M hok
  rw [jcell_zn hsh] at hw
  have hnar : vp_nar .boolean (Int32.ofInt x) = Int32.ofInt x := by rcases h01 with rfl | rfl <;> rfl
  refine va_zast hx hb hK hP (jD hi) hS _ 1 hw rfl (jr_in hyr h0 hn) hd (fun H1 locs1 hP1 _ hS1 => ?_)
  rw [hnar, jr_cl hyr, ← jupd_row, ← jcell_zn (cI := cI) (cZ := cZ) (ad := ad) hsh, jws_set cI cZ ad M hok] at hP1
  exact h H1 locs1 ls ⟨jMr_upd hM hxr, hLo, jS_tl (jS_tl (jS_tl hSo)), hP1, hS1, hh⟩
end JCells
