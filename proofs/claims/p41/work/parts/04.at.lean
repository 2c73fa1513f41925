-- A run of the machine: the least relation that its steps close. jAt k pc L S M Q: from there method k comes to its end, and Q holds of its answer and of the memory then.
abbrev jX : Type := Nat → Nat → jLo → List jV → jM → jRt → Prop
def jstep (X : jX) (k pc : Nat) (L : jLo) (S : List jV) (M : jM) (Q : jRt) : Prop := match jcode k pc with
  | none => False
  | some en => jsem (jrk k) jmc en L S M (fun p' L' S' M' => X k p' L' S' M' Q) (fun k' as M' Q' => X k' 0 (jent as (jml k')) [] M' Q') Q
def jgood (X : jX) : Prop := (∀ (k pc : Nat) (L : jLo) (S : List jV) (M : jM) (Q Q' : jRt), X k pc L S M Q → (∀ r M', Q r M' → Q' r M') → X k pc L S M Q') ∧ ∀ (k pc : Nat) (L : jLo) (S : List jV) (M : jM) (Q : jRt), jstep X k pc L S M Q → X k pc L S M Q
def jAt : jX := fun k pc L S M Q => ∀ X : jX, jgood X → X k pc L S M Q
def jCall (k : Nat) (as : List jV) (M : jM) (Q : jRt) : Prop := jAt k 0 (jent as (jml k)) [] M Q
/-- fewer locals known -/
def jle (L L2 : jLo) : Prop := L.length = L2.length ∧ ∀ i v, L.getD i none = some v → L2.getD i none = some v
theorem jle_rf (L : jLo) : jle L L := ⟨rfl, fun _ _ h => h⟩
theorem jgetD_set {L : jLo} {i j : Nat} {o : Option jV} (hi : i < L.length) : (L.set i o).getD j none = if i = j then o else L.getD j none := by
  rw [List.getD_eq_getElem?_getD, List.getElem?_set]
  by_cases e : i = j
  · subst e
    rw [if_pos rfl, if_pos hi, if_pos rfl]; rfl
  · rw [if_neg e, if_neg e, List.getD_eq_getElem?_getD]
theorem jgetD_lt {L : jLo} {i : Nat} {v : jV} (h : L.getD i none = some v) : i < L.length := by
  rcases Nat.lt_or_ge i L.length with q | q
  · exact q
  · rw [List.getD_eq_getElem?_getD, List.getElem?_eq_none q] at h
    cases h
theorem jdrop_len (L : jLo) (i : Nat) : (jdrop L i).length = L.length := by
  rcases i with _ | j
  · rfl
  · rw [jdrop]
    split
    · exact List.length_set
    · rfl
theorem jdrop_get {L : jLo} {i j : Nat} {v : jV} : (jdrop L i).getD j none = some v ↔ L.getD j none = some v ∧ ¬ (j + 1 = i ∧ jcat v = 2) := by
  rcases i with _ | k
  · exact ⟨fun h => ⟨h, fun z => by omega⟩, fun h => h.1⟩
  · rw [jdrop]
    split
    · rename_i x hx
      have hk := jgetD_lt hx
      rw [jgetD_set hk]
      by_cases e : k = j
      · subst e
        rw [if_pos rfl, hx]
        refine ⟨fun h => (by cases h), fun h => ?_⟩
        obtain ⟨h1, h2⟩ := h
        cases h1
        exact absurd ⟨rfl, rfl⟩ h2
      · rw [if_neg e]
        exact ⟨fun h => ⟨h, fun z => e (by omega)⟩, fun h => h.1⟩
    · rename_i hx
      refine ⟨fun h => ⟨h, fun z => ?_⟩, fun h => h.1⟩
      obtain ⟨z1, z2⟩ := z
      have e : j = k := by omega
      subst e
      rcases v with x | x | x
      · cases z2
      · exact hx x h
      · cases z2
theorem jle_drop {L L2 : jLo} (h : jle L L2) (i : Nat) : jle (jdrop L i) (jdrop L2 i) := by
  refine ⟨by rw [jdrop_len, jdrop_len]; exact h.1, fun j v q => ?_⟩
  rw [jdrop_get] at q ⊢
  exact ⟨h.2 j v q.1, q.2⟩
theorem jle_set {L L2 : jLo} (h : jle L L2) (i : Nat) (o : Option jV) : jle (L.set i o) (L2.set i o) := by
  refine ⟨by rw [List.length_set, List.length_set]; exact h.1, fun j v q => ?_⟩
  by_cases hi : i < L.length
  · rw [jgetD_set hi] at q
    rw [jgetD_set (by rw [← h.1]; exact hi)]
    by_cases e : i = j
    · rw [if_pos e] at q ⊢; exact q
    · rw [if_neg e] at q ⊢; exact h.2 j v q
  · rw [List.set_eq_of_length_le (by omega)] at q
    rw [List.set_eq_of_length_le (by rw [← h.1]; omega)]
    exact h.2 j v q
def jrel (Rl : jLo → jLo → Prop) : Prop := (∀ L L2, Rl L L2 → L.length = L2.length ∧ ∀ i v, L.getD i none = some v → L2.getD i none = some v) ∧ (∀ L L2 i v, Rl L L2 → Rl ((jdrop L i).set i (some v)) ((jdrop L2 i).set i (some v))) ∧ (∀ L L2 i v, Rl L L2 → Rl (((jdrop L i).set i (some v)).set (i + 1) none) (((jdrop L2 i).set i (some v)).set (i + 1) none))
theorem jrel_get {Rl : jLo → jLo → Prop} {L L2 : jLo} {i : Nat} {v : jV} (hR : jrel Rl) (hL : Rl L L2) (h : L.getD i none = some v) : L2.getD i none = some v := (hR.1 L L2 hL).2 i v h
theorem jrel_len {Rl : jLo → jLo → Prop} {L L2 : jLo} (hR : jrel Rl) (hL : Rl L L2) : L.length = L2.length := (hR.1 L L2 hL).1
theorem jrel_eq : jrel (fun L L2 => L = L2) := ⟨fun L L2 h => by subst h; exact ⟨rfl, fun _ _ h => h⟩, fun L L2 i v h => by subst h; rfl, fun L L2 i v h => by subst h; rfl⟩
theorem jrel_le : jrel jle := ⟨fun L L2 h => h, fun L L2 i v h => jle_set (jle_drop h i) i _, fun L L2 i v h => jle_set (jle_set (jle_drop h i) i _) (i + 1) _⟩
section JMono
variable {Rl : jLo → jLo → Prop} {K K' : jK} {C C' : jC} {L L2 : jLo} {S : List jV} {M : jM} {Q : jRt}
theorem jm_c {b : Bool} {A A' B B' : Prop} (hA : A → A') (hB : B → B') : cond b A B → cond b A' B' := by cases b <;> assumption
theorem jm_iload {i nx : Nat} (hR : jrel Rl) (hL : Rl L L2) (hK : ∀ pc L L2 S M, Rl L L2 → K pc L S M → K' pc L2 S M) : jo_iload i nx L S M K → jo_iload i nx L2 S M K' := by
  intro h; unfold jo_iload at h ⊢; rcases hv : L.getD i none with _ | x | x | x <;> rw [hv] at h <;> first | exact False.elim h | (rw [jrel_get hR hL hv]; exact hK _ _ _ _ _ hL h)
theorem jm_lload {i nx : Nat} (hR : jrel Rl) (hL : Rl L L2) (hK : ∀ pc L L2 S M, Rl L L2 → K pc L S M → K' pc L2 S M) : jo_lload i nx L S M K → jo_lload i nx L2 S M K' := by
  intro h; unfold jo_lload at h ⊢; rcases hv : L.getD i none with _ | x | x | x <;> rw [hv] at h <;> first | exact False.elim h | (rw [jrel_get hR hL hv]; exact hK _ _ _ _ _ hL h)
theorem jm_aload {i nx : Nat} (hR : jrel Rl) (hL : Rl L L2) (hK : ∀ pc L L2 S M, Rl L L2 → K pc L S M → K' pc L2 S M) : jo_aload i nx L S M K → jo_aload i nx L2 S M K' := by
  intro h; unfold jo_aload at h ⊢; rcases hv : L.getD i none with _ | x | x | x <;> rw [hv] at h <;> first | exact False.elim h | (rw [jrel_get hR hL hv]; exact hK _ _ _ _ _ hL h)
theorem jm_istore {i nx : Nat} (hR : jrel Rl) (hL : Rl L L2) (hK : ∀ pc L L2 S M, Rl L L2 → K pc L S M → K' pc L2 S M) : jo_istore i nx L S M K → jo_istore i nx L2 S M K' := by
  unfold jo_istore; rw [← jrel_len hR hL]; rcases S with _ | ⟨x | x | x, S⟩ <;> first | exact id | exact jm_c (hK _ _ _ _ _ (hR.2.1 _ _ _ _ hL)) id
theorem jm_lstore {i nx : Nat} (hR : jrel Rl) (hL : Rl L L2) (hK : ∀ pc L L2 S M, Rl L L2 → K pc L S M → K' pc L2 S M) : jo_lstore i nx L S M K → jo_lstore i nx L2 S M K' := by
  unfold jo_lstore; rw [← jrel_len hR hL]; rcases S with _ | ⟨x | x | x, S⟩ <;> first | exact id | exact jm_c (hK _ _ _ _ _ (hR.2.2 _ _ _ _ hL)) id
theorem jm_astore {i nx : Nat} (hR : jrel Rl) (hL : Rl L L2) (hK : ∀ pc L L2 S M, Rl L L2 → K pc L S M → K' pc L2 S M) : jo_astore i nx L S M K → jo_astore i nx L2 S M K' := by
  unfold jo_astore; rw [← jrel_len hR hL]; rcases S with _ | ⟨x | x | x, S⟩ <;> first | exact id | exact jm_c (hK _ _ _ _ _ (hR.2.1 _ _ _ _ hL)) id
theorem jm_iinc {i nx : Nat} {n : Int} (hR : jrel Rl) (hL : Rl L L2) (hK : ∀ pc L L2 S M, Rl L L2 → K pc L S M → K' pc L2 S M) : jo_iinc i n nx L S M K → jo_iinc i n nx L2 S M K' := by
  intro h; unfold jo_iinc at h ⊢; rw [← jrel_len hR hL]; rcases hv : L.getD i none with _ | x | x | x <;> rw [hv] at h <;> first | exact False.elim h | (rw [jrel_get hR hL hv]; exact ⟨h.1, jm_c (hK _ _ _ _ _ (hR.2.1 _ _ _ _ hL)) id h.2⟩)
theorem jm_ii {f : Int → Int → Int} {g : Int → Int → Prop} {nx : Nat} (hR : jrel Rl) (hL : Rl L L2) (hK : ∀ pc L L2 S M, Rl L L2 → K pc L S M → K' pc L2 S M) : jo_ii f g nx L S M K → jo_ii f g nx L2 S M K' := by
  unfold jo_ii; rcases S with _ | ⟨x | x | x, _ | ⟨y | y | y, S⟩⟩ <;> first | exact id | exact fun h => ⟨h.1, hK _ _ _ _ _ hL h.2⟩
theorem jm_i2 {f : Int → Int → Int} {nx : Nat} (hR : jrel Rl) (hL : Rl L L2) (hK : ∀ pc L L2 S M, Rl L L2 → K pc L S M → K' pc L2 S M) : jo_i2 f nx L S M K → jo_i2 f nx L2 S M K' := by
  unfold jo_i2; rcases S with _ | ⟨x | x | x, _ | ⟨y | y | y, S⟩⟩ <;> first | exact id | exact hK _ _ _ _ _ hL
theorem jm_ll {f : Int → Int → Int} {g : Int → Int → Prop} {nx : Nat} (hR : jrel Rl) (hL : Rl L L2) (hK : ∀ pc L L2 S M, Rl L L2 → K pc L S M → K' pc L2 S M) : jo_ll f g nx L S M K → jo_ll f g nx L2 S M K' := by
  unfold jo_ll; rcases S with _ | ⟨x | x | x, _ | ⟨y | y | y, S⟩⟩ <;> first | exact id | exact fun h => ⟨h.1, hK _ _ _ _ _ hL h.2⟩
theorem jm_if {p : Int → Prop} {tg nx : Nat} (hR : jrel Rl) (hL : Rl L L2) (hK : ∀ pc L L2 S M, Rl L L2 → K pc L S M → K' pc L2 S M) : jo_if p tg nx L S M K → jo_if p tg nx L2 S M K' := by
  unfold jo_if; rcases S with _ | ⟨x | x | x, S⟩ <;> first | exact id | exact fun h => ⟨fun c => hK _ _ _ _ _ hL (h.1 c), fun c => hK _ _ _ _ _ hL (h.2 c)⟩
theorem jm_icmp {p : Int → Int → Prop} {tg nx : Nat} (hR : jrel Rl) (hL : Rl L L2) (hK : ∀ pc L L2 S M, Rl L L2 → K pc L S M → K' pc L2 S M) : jo_icmp p tg nx L S M K → jo_icmp p tg nx L2 S M K' := by
  unfold jo_icmp; rcases S with _ | ⟨x | x | x, _ | ⟨y | y | y, S⟩⟩ <;> first | exact id | exact fun h => ⟨fun c => hK _ _ _ _ _ hL (h.1 c), fun c => hK _ _ _ _ _ hL (h.2 c)⟩
theorem jm_sw {x : Int} {tg : Nat} (hR : jrel Rl) (hL : Rl L L2) (hK : ∀ pc L L2 S M, Rl L L2 → K pc L S M → K' pc L2 S M) : ∀ sw : List (Int × Nat), jo_sw x tg L S M K sw → jo_sw x tg L2 S M K' sw
  | [], h => hK _ _ _ _ _ hL h
  | (k, t) :: r, h => ⟨fun c => hK _ _ _ _ _ hL (h.1 c), fun c => jm_sw hR hL hK r (h.2 c)⟩
theorem jm_switch {tg : Nat} {sw : List (Int × Nat)} (hR : jrel Rl) (hL : Rl L L2) (hK : ∀ pc L L2 S M, Rl L L2 → K pc L S M → K' pc L2 S M) : jo_switch tg sw L S M K → jo_switch tg sw L2 S M K' := by
  unfold jo_switch; rcases S with _ | ⟨x | x | x, S⟩ <;> first | exact id | exact jm_sw hR hL hK _
theorem jm_get {ci f nx : Nat} (hR : jrel Rl) (hL : Rl L L2) (hK : ∀ pc L L2 S M, Rl L L2 → K pc L S M → K' pc L2 S M) : jo_get ci f nx L S M K → jo_get ci f nx L2 S M K' := by
  unfold jo_get; rcases S with _ | ⟨x | x | ⟨k, i, c⟩, S⟩ <;> try exact id
  dsimp only
  rcases jshp k c with n | n | cj <;> try exact id
  refine jm_c ?_ id
  rcases (jfs ci).getD f (jfr fun _ => (8, 0, 0)) with b | g
  · exact hK _ _ _ _ _ hL
  · exact jm_c id (hK _ _ _ _ _ hL)
theorem jm_put {ci f nx : Nat} (hR : jrel Rl) (hL : Rl L L2) (hK : ∀ pc L L2 S M, Rl L L2 → K pc L S M → K' pc L2 S M) : jo_put ci f nx L S M K → jo_put ci f nx L2 S M K' := by
  unfold jo_put; rcases S with _ | ⟨x | x | x, _ | ⟨y | y | ⟨k, i, c⟩, S⟩⟩ <;> try exact id
  dsimp only
  rcases jshp k c with n | n | cj <;> try exact id
  refine jm_c ?_ id
  rcases (jfs ci).getD f (jfr fun _ => (8, 0, 0)) with (_ | _) | g
  · exact hK _ _ _ _ _ hL
  · exact fun h => ⟨h.1, hK _ _ _ _ _ hL h.2⟩
  · exact id
theorem jm_iald {nx : Nat} (hR : jrel Rl) (hL : Rl L L2) (hK : ∀ pc L L2 S M, Rl L L2 → K pc L S M → K' pc L2 S M) : jo_iald nx L S M K → jo_iald nx L2 S M K' := by
  unfold jo_iald; rcases S with _ | ⟨x | x | x, _ | ⟨y | y | ⟨k, i, c⟩, S⟩⟩ <;> try exact id
  dsimp only
  rcases jshp k c with n | n | n <;> first | exact id | exact fun h => ⟨h.1, hK _ _ _ _ _ hL h.2⟩
theorem jm_zald {nx : Nat} (hR : jrel Rl) (hL : Rl L L2) (hK : ∀ pc L L2 S M, Rl L L2 → K pc L S M → K' pc L2 S M) : jo_zald nx L S M K → jo_zald nx L2 S M K' := by
  unfold jo_zald; rcases S with _ | ⟨x | x | x, _ | ⟨y | y | ⟨k, i, c⟩, S⟩⟩ <;> try exact id
  dsimp only
  rcases jshp k c with n | n | n <;> first | exact id | exact fun h => ⟨h.1, hK _ _ _ _ _ hL h.2⟩
theorem jm_iast {nx : Nat} (hR : jrel Rl) (hL : Rl L L2) (hK : ∀ pc L L2 S M, Rl L L2 → K pc L S M → K' pc L2 S M) : jo_iast nx L S M K → jo_iast nx L2 S M K' := by
  unfold jo_iast; rcases S with _ | ⟨x | x | x, _ | ⟨y | y | y, _ | ⟨z | z | ⟨k, i, c⟩, S⟩⟩⟩ <;> try exact id
  dsimp only
  rcases jshp k c with n | n | n <;> first | exact id | exact fun h => ⟨h.1, hK _ _ _ _ _ hL h.2⟩
theorem jm_zast {nx : Nat} (hR : jrel Rl) (hL : Rl L L2) (hK : ∀ pc L L2 S M, Rl L L2 → K pc L S M → K' pc L2 S M) : jo_zast nx L S M K → jo_zast nx L2 S M K' := by
  unfold jo_zast; rcases S with _ | ⟨x | x | x, _ | ⟨y | y | y, _ | ⟨z | z | ⟨k, i, c⟩, S⟩⟩⟩ <;> try exact id
  dsimp only
  rcases jshp k c with n | n | n <;> first | exact id | exact fun h => ⟨h.1, hK _ _ _ _ _ hL h.2⟩
theorem jm_dup {nx : Nat} (hR : jrel Rl) (hL : Rl L L2) (hK : ∀ pc L L2 S M, Rl L L2 → K pc L S M → K' pc L2 S M) : jo_dup nx L S M K → jo_dup nx L2 S M K' := by
  unfold jo_dup; rcases S with _ | ⟨x, S⟩ <;> first | exact id | exact jm_c (hK _ _ _ _ _ hL) id
theorem jm_dup2 {nx : Nat} (hR : jrel Rl) (hL : Rl L L2) (hK : ∀ pc L L2 S M, Rl L L2 → K pc L S M → K' pc L2 S M) : jo_dup2 nx L S M K → jo_dup2 nx L2 S M K' := by
  unfold jo_dup2; rcases S with _ | ⟨x, _ | ⟨y, S⟩⟩ <;> first | exact id | exact jm_c (hK _ _ _ _ _ hL) id
theorem jm_nonnull {tg : Nat} (hR : jrel Rl) (hL : Rl L L2) (hK : ∀ pc L L2 S M, Rl L L2 → K pc L S M → K' pc L2 S M) : jo_nonnull tg L S M K → jo_nonnull tg L2 S M K' := by
  unfold jo_nonnull; rcases S with _ | ⟨x | x | x, S⟩ <;> first | exact id | exact hK _ _ _ _ _ hL
theorem jm_i2l {nx : Nat} (hR : jrel Rl) (hL : Rl L L2) (hK : ∀ pc L L2 S M, Rl L L2 → K pc L S M → K' pc L2 S M) : jo_i2l nx L S M K → jo_i2l nx L2 S M K' := by
  unfold jo_i2l; rcases S with _ | ⟨x | x | x, S⟩ <;> first | exact id | exact hK _ _ _ _ _ hL
theorem jm_ineg {nx : Nat} (hR : jrel Rl) (hL : Rl L L2) (hK : ∀ pc L L2 S M, Rl L L2 → K pc L S M → K' pc L2 S M) : jo_ineg nx L S M K → jo_ineg nx L2 S M K' := by
  unfold jo_ineg; rcases S with _ | ⟨x | x | x, S⟩ <;> first | exact id | exact fun h => ⟨h.1, hK _ _ _ _ _ hL h.2⟩
theorem jm_lcmp {nx : Nat} (hR : jrel Rl) (hL : Rl L L2) (hK : ∀ pc L L2 S M, Rl L L2 → K pc L S M → K' pc L2 S M) : jo_lcmp nx L S M K → jo_lcmp nx L2 S M K' := by
  unfold jo_lcmp; rcases S with _ | ⟨x | x | x, _ | ⟨y | y | y, S⟩⟩ <;> first | exact id | exact hK _ _ _ _ _ hL
theorem jm_alen {nx : Nat} (hR : jrel Rl) (hL : Rl L L2) (hK : ∀ pc L L2 S M, Rl L L2 → K pc L S M → K' pc L2 S M) : jo_alen nx L S M K → jo_alen nx L2 S M K' := by
  unfold jo_alen
  split <;> first
    | exact id
    | exact fun h x hx => hK _ _ _ _ _ hL (h x hx)
theorem jm_qv {k k' : jM → Prop} (h : ∀ M, k M → k' M) : ∀ r M, jqv k r M → jqv k' r M := fun _ _ q => ⟨q.1, h _ q.2⟩
theorem jm_qi {k k' : Int → jM → Prop} (h : ∀ x M, k x M → k' x M) : ∀ r M, jqi k r M → jqi k' r M := fun _ _ ⟨x, e, q⟩ => ⟨x, e, h _ _ q⟩
theorem jm_ql {k k' : Int → jM → Prop} (h : ∀ x M, k x M → k' x M) : ∀ r M, jql k r M → jql k' r M := fun _ _ ⟨x, e, q⟩ => ⟨x, e, h _ _ q⟩
theorem jm_qr {k k' : Nat → Nat → Nat → jM → Prop} (h : ∀ a b c M, k a b c M → k' a b c M) : ∀ r M, jqr k r M → jqr k' r M := fun _ _ ⟨a, b, c, e, q⟩ => ⟨a, b, c, e, h _ _ _ _ q⟩
theorem jm_call {mid na ci rk ml nx : Nat} (hR : jrel Rl) (hL : Rl L L2) (hK : ∀ pc L L2 S M, Rl L L2 → K pc L S M → K' pc L2 S M) (hC : ∀ k as M P P', C k as M P → (∀ r M', P r M' → P' r M') → C' k as M P') : jo_call mid na ci rk ml nx L S M K C → jo_call mid na ci rk ml nx L2 S M K' C' := by
  unfold jo_call
  refine jm_c ?_ id
  rcases rk with _ | _ | _ | n
  · exact fun h => hC _ _ _ _ _ h (jm_qv fun _ => hK _ _ _ _ _ hL)
  · exact fun h => hC _ _ _ _ _ h (jm_qi fun _ _ => hK _ _ _ _ _ hL)
  · exact fun h => hC _ _ _ _ _ h (jm_ql fun _ _ => hK _ _ _ _ _ hL)
  · exact fun h => hC _ _ _ _ _ h (jm_qr fun _ _ _ _ => hK _ _ _ _ _ hL)
theorem jm_prim {n nx : Nat} (hR : jrel Rl) (hL : Rl L L2) (hK : ∀ pc L L2 S M, Rl L L2 → K pc L S M → K' pc L2 S M) : jo_prim n nx L S M K → jo_prim n nx L2 S M K' := by
  unfold jo_prim
  split <;> first
    | exact id
    | exact jm_c (hK _ _ _ _ _ hL) id
    | exact jm_c (fun h => ⟨h.1, hK _ _ _ _ _ hL h.2⟩) id
    | exact jm_c (fun h => ⟨h.1, fun x hx => hK _ _ _ _ _ hL (h.2 x hx)⟩) id
theorem jsem_rel {rk : Nat} {mc : Nat → Nat × Nat × Nat × Nat} {en : jEn} (hR : jrel Rl) (hL : Rl L L2) (hK : ∀ pc L L2 S M, Rl L L2 → K pc L S M → K' pc L2 S M) (hC : ∀ k as M P P', C k as M P → (∀ r M', P r M' → P' r M') → C' k as M P') :
    jsem rk mc en L S M K C Q → jsem rk mc en L2 S M K' C' Q := by
  obtain ⟨ins, nx, tg, sw⟩ := en
  cases ins
  case iload => exact jm_iload hR hL hK
  case iload_n => exact jm_iload hR hL hK
  case lload => exact jm_lload hR hL hK
  case lload_n => exact jm_lload hR hL hK
  case aload => exact jm_aload hR hL hK
  case aload_n => exact jm_aload hR hL hK
  case istore => exact jm_istore hR hL hK
  case istore_n => exact jm_istore hR hL hK
  case lstore => exact jm_lstore hR hL hK
  case lstore_n => exact jm_lstore hR hL hK
  case astore => exact jm_astore hR hL hK
  case astore_n => exact jm_astore hR hL hK
  case iinc => exact jm_iinc hR hL hK
  case iconst => exact hK _ _ _ _ _ hL
  case bipush => exact hK _ _ _ _ _ hL
  case sipush => exact hK _ _ _ _ _ hL
  case lconst => exact hK _ _ _ _ _ hL
  case ldc => show (match sw with | [(0, k)] => _ | [(v, _)] => _ | _ => False : Prop) → (match sw with | [(0, k)] => _ | [(v, _)] => _ | _ => False : Prop); split <;> first | exact id | exact hK _ _ _ _ _ hL
  case ldc_w => show (match sw with | [(v, _)] => _ | _ => False : Prop) → (match sw with | [(v, _)] => _ | _ => False : Prop); split <;> first | exact id | exact hK _ _ _ _ _ hL
  case ldc2_w => show (match sw with | [(v, _)] => _ | _ => False : Prop) → (match sw with | [(v, _)] => _ | _ => False : Prop); split <;> first | exact id | exact hK _ _ _ _ _ hL
  case iadd => show (match tg with | 1 => _ | _ => _ : Prop) → (match tg with | 1 => _ | _ => _ : Prop); split <;> first | exact jm_i2 hR hL hK | exact jm_ii hR hL hK
  case isub => exact jm_ii hR hL hK
  case imul => show (match tg with | 1 => _ | _ => _ : Prop) → (match tg with | 1 => _ | _ => _ : Prop); split <;> first | exact jm_i2 hR hL hK | exact jm_ii hR hL hK
  case idiv => exact jm_ii hR hL hK
  case irem => exact jm_ii hR hL hK
  case ineg => exact jm_ineg hR hL hK
  case iand => exact jm_i2 hR hL hK
  case ior => exact jm_i2 hR hL hK
  case ixor => exact jm_i2 hR hL hK
  case ishl => exact jm_i2 hR hL hK
  case ishr => exact jm_i2 hR hL hK
  case ladd => show (match tg with | 1 => _ | _ => _ : Prop) → (match tg with | 1 => _ | _ => _ : Prop); split <;> exact jm_ll hR hL hK
  case lsub => exact jm_ll hR hL hK
  case lmul => show (match tg with | 1 => _ | _ => _ : Prop) → (match tg with | 1 => _ | _ => _ : Prop); split <;> exact jm_ll hR hL hK
  case ldiv => exact jm_ll hR hL hK
  case lrem => exact jm_ll hR hL hK
  case lcmp => exact jm_lcmp hR hL hK
  case i2l => exact jm_i2l hR hL hK
  case dup => exact jm_dup hR hL hK
  case dup2 => exact jm_dup2 hR hL hK
  case ifCond cd off => cases cd <;> exact jm_if hR hL hK
  case if_icmp cd off => cases cd <;> exact jm_icmp hR hL hK
  case goto => exact hK _ _ _ _ _ hL
  case tableswitch => exact jm_switch hR hL hK
  case lookupswitch => exact jm_switch hR hL hK
  case getfield => exact jm_get hR hL hK
  case putfield => exact jm_put hR hL hK
  case arraylength => exact jm_alen hR hL hK
  case iaload => exact jm_iald hR hL hK
  case baload => exact jm_zald hR hL hK
  case iastore => exact jm_iast hR hL hK
  case bastore => exact jm_zast hR hL hK
  case invokestatic => rcases sw with _ | ⟨⟨a, n⟩, r⟩ <;> first | exact jm_call hR hL hK hC | exact jm_prim hR hL hK
  case invokevirtual => rcases sw with _ | ⟨⟨a, n⟩, r⟩ <;> first | exact jm_call hR hL hK hC | exact jm_prim hR hL hK
  case ireturn => exact id
  case lreturn => exact id
  case areturn => exact id
  case return_ => exact id
  case ifnonnull => exact jm_nonnull hR hL hK
  all_goals exact False.elim
end JMono
theorem jsem_mono {K K' : jK} {C C' : jC} {L : jLo} {S : List jV} {M : jM} {Q : jRt} {rk : Nat} {mc : Nat → Nat × Nat × Nat × Nat} {en : jEn} (hK : ∀ pc L S M, K pc L S M → K' pc L S M) (hC : ∀ k as M P P', C k as M P → (∀ r M', P r M' → P' r M') → C' k as M P') :
    jsem rk mc en L S M K C Q → jsem rk mc en L S M K' C' Q := jsem_rel (Rl := fun L L2 => L = L2) jrel_eq rfl (fun pc L L2 S M e q => by subst e; exact hK pc L S M q) hC
theorem jAt_mono {k pc : Nat} {L : jLo} {S : List jV} {M : jM} {Q Q' : jRt} (h : jAt k pc L S M Q) (hq : ∀ r M', Q r M' → Q' r M') : jAt k pc L S M Q' := fun X hX => hX.1 _ _ _ _ _ _ _ (h X hX) hq
theorem jAt_intro {k pc : Nat} {L : jLo} {S : List jV} {M : jM} {Q : jRt} (h : jstep jAt k pc L S M Q) : jAt k pc L S M Q := by
  intro X hX
  refine hX.2 _ _ _ _ _ _ ?_
  unfold jstep at h ⊢
  split at h
  · exact h
  · exact jsem_mono (fun _ _ _ _ q => q X hX) (fun _ _ _ _ _ q hq => hX.1 _ _ _ _ _ _ _ (q X hX) hq) h
theorem jCall_mono {k : Nat} {as : List jV} {M : jM} {Q Q' : jRt} (h : jCall k as M Q) (hq : ∀ r M', Q r M' → Q' r M') : jCall k as M Q' := jAt_mono h hq
/-- a run that needs fewer locals is a run with more -/
theorem jAt_weak {k pc : Nat} {L L2 : jLo} {S : List jV} {M : jM} {Q : jRt} (hL : jle L L2) (h : jAt k pc L S M Q) : jAt k pc L2 S M Q := by
  refine h (fun k pc L S M Q => ∀ L2, jle L L2 → jAt k pc L2 S M Q) ⟨fun k pc L S M Q Q' h1 hq L2 hL => jAt_mono (h1 L2 hL) hq, fun k pc L S M Q h1 L2 hL => ?_⟩ L2 hL
  refine jAt_intro ?_
  unfold jstep at h1 ⊢
  split at h1
  · exact h1
  · exact jsem_rel (Rl := jle) jrel_le hL (fun _ _ _ _ _ e q => q _ e) (fun _ _ _ _ _ q hq => jAt_mono (q _ (jle_rf _)) hq) h1
/-- of the locals only those that are asked for -/
def jkp (live : List Nat) : Nat → jLo → jLo
  | _, [] => []
  | i, o :: L => (bif live.elem i then o else none) :: jkp live (i + 1) L
theorem jkp_len (live : List Nat) : ∀ (i : Nat) (L : jLo), (jkp live i L).length = L.length
  | _, [] => rfl
  | i, o :: L => by rw [jkp, List.length_cons, List.length_cons, jkp_len live (i + 1) L]
theorem jkp_get (live : List Nat) : ∀ (i : Nat) (L : jLo) (j : Nat) (v : jV), (jkp live i L).getD j none = some v → L.getD j none = some v
  | _, [], _, _, h => h
  | i, o :: L, 0, v, h => by
    rw [jkp, List.getD_cons_zero] at h
    rw [List.getD_cons_zero]
    cases hb : live.elem i with
    | true => rw [hb] at h; exact h
    | false => rw [hb] at h; cases h
  | i, o :: L, j + 1, v, h => by
    rw [jkp, List.getD_cons_succ] at h
    rw [List.getD_cons_succ]
    exact jkp_get live (i + 1) L j v h
theorem jkp_le (live : List Nat) (L : jLo) : jle (jkp live 0 L) L := ⟨jkp_len live 0 L, fun i v => jkp_get live 0 L i v⟩
/-- a stretch of a method: its steps one behind another, up to a place of cuts (or n steps); a cut names the locals that live there -/
def jin (cuts : List (Nat × List Nat)) (p : Nat) : Option (List Nat) := match cuts with
  | [] => none
  | (c, l) :: r => bif Nat.beq c p then some l else jin r p
def jseg (cuts : List (Nat × List Nat)) (k : Nat) (rk : Nat) (cd : Nat → Option jEn) : Nat → Nat → jLo → List jV → jM → jRt → Prop
  | 0, pc, L, S, M, Q => jAt k pc L S M Q
  | n + 1, pc, L, S, M, Q => match cd pc with
    | none => False
    | some en => jsem rk jmc en L S M (fun p' L' S' M' => match jin cuts p' with
      | some l => jAt k p' (jkp l 0 L') S' M' Q
      | none => jseg cuts k rk cd n p' L' S' M' Q) jCall Q
theorem jseg_at {cuts : List (Nat × List Nat)} {k : Nat} : ∀ (n pc : Nat) (L : jLo) (S : List jV) (M : jM) (Q : jRt), jseg cuts k (jrk k) (jcode k) n pc L S M Q → jAt k pc L S M Q := by
  intro n
  induction n with
  | zero => exact fun _ _ _ _ _ h => h
  | succ n ih =>
    intro pc L S M Q h
    refine jAt_intro ?_
    unfold jseg at h
    unfold jstep
    cases hc : jcode k pc with
    | none => rw [hc] at h; exact h
    | some en =>
      rw [hc] at h
      refine jsem_mono (fun p' L' S' M' q => ?_) (fun _ _ _ _ _ q hq => jCall_mono q hq) h
      cases hb : jin cuts p' with
      | some l => rw [hb] at q; exact jAt_weak (jkp_le l L') q
      | none => rw [hb] at q; exact ih _ _ _ _ _ q
/-- the same, with the method's own code and answer's kind -/
theorem jgo (cuts : List (Nat × List Nat)) (n : Nat) {k pc rk : Nat} {cd : Nat → Option jEn} {L : jLo} {S : List jV} {M : jM} {Q : jRt} (hc : jcode k = cd) (hr : jrk k = rk) (h : jseg cuts k rk cd n pc L S M Q) : jAt k pc L S M Q := by
  subst hc; subst hr; exact jseg_at n pc L S M Q h
